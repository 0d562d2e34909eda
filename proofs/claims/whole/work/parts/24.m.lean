theorem hdX9_adds : yX9_adds.cls = RX9 ∧ yX9_adds.cls ≠ "java/lang/invoke/MethodHandle" ∧ yX9_adds.cls ≠ "java/lang/invoke/VarHandle" ∧ (parseMethodDescriptor yX9_adds.desc).map (fun d => d.parameters.length) = some 6 := by decide +kernel
theorem hdX9_asks : yX9_asks.cls = RX9 ∧ yX9_asks.cls ≠ "java/lang/invoke/MethodHandle" ∧ yX9_asks.cls ≠ "java/lang/invoke/VarHandle" ∧ (parseMethodDescriptor yX9_asks.desc).map (fun d => d.parameters.length) = some 2 := by decide +kernel
theorem hdX9_booked : yX9_booked.cls = RX9 ∧ yX9_booked.cls ≠ "java/lang/invoke/MethodHandle" ∧ yX9_booked.cls ≠ "java/lang/invoke/VarHandle" ∧ (parseMethodDescriptor yX9_booked.desc).map (fun d => d.parameters.length) = some 1 := by decide +kernel
theorem hdX9_error : yX9_error.cls = RX9 ∧ yX9_error.cls ≠ "java/lang/invoke/MethodHandle" ∧ yX9_error.cls ≠ "java/lang/invoke/VarHandle" ∧ (parseMethodDescriptor yX9_error.desc).map (fun d => d.parameters.length) = some 1 := by decide +kernel
theorem hdX9_isAsked : yX9_isAsked.cls = RX9 ∧ yX9_isAsked.cls ≠ "java/lang/invoke/MethodHandle" ∧ yX9_isAsked.cls ≠ "java/lang/invoke/VarHandle" ∧ (parseMethodDescriptor yX9_isAsked.desc).map (fun d => d.parameters.length) = some 2 := by decide +kernel
theorem hdX9_isReading : yX9_isReading.cls = RX9 ∧ yX9_isReading.cls ≠ "java/lang/invoke/MethodHandle" ∧ yX9_isReading.cls ≠ "java/lang/invoke/VarHandle" ∧ (parseMethodDescriptor yX9_isReading.desc).map (fun d => d.parameters.length) = some 1 := by decide +kernel
theorem hdX9_isSetup : yX9_isSetup.cls = RX9 ∧ yX9_isSetup.cls ≠ "java/lang/invoke/MethodHandle" ∧ yX9_isSetup.cls ≠ "java/lang/invoke/VarHandle" ∧ (parseMethodDescriptor yX9_isSetup.desc).map (fun d => d.parameters.length) = some 1 := by decide +kernel
theorem hdX9_isShelf : yX9_isShelf.cls = RX9 ∧ yX9_isShelf.cls ≠ "java/lang/invoke/MethodHandle" ∧ yX9_isShelf.cls ≠ "java/lang/invoke/VarHandle" ∧ (parseMethodDescriptor yX9_isShelf.desc).map (fun d => d.parameters.length) = some 1 := by decide +kernel
theorem hdX9_isTold : yX9_isTold.cls = RX9 ∧ yX9_isTold.cls ≠ "java/lang/invoke/MethodHandle" ∧ yX9_isTold.cls ≠ "java/lang/invoke/VarHandle" ∧ (parseMethodDescriptor yX9_isTold.desc).map (fun d => d.parameters.length) = some 2 := by decide +kernel
theorem hdX9_isYards : yX9_isYards.cls = RX9 ∧ yX9_isYards.cls ≠ "java/lang/invoke/MethodHandle" ∧ yX9_isYards.cls ≠ "java/lang/invoke/VarHandle" ∧ (parseMethodDescriptor yX9_isYards.desc).map (fun d => d.parameters.length) = some 1 := by decide +kernel
theorem hdX9_no : yX9_no.cls = RX9 ∧ yX9_no.cls ≠ "java/lang/invoke/MethodHandle" ∧ yX9_no.cls ≠ "java/lang/invoke/VarHandle" ∧ (parseMethodDescriptor yX9_no.desc).map (fun d => d.parameters.length) = some 1 := by decide +kernel
theorem hdX9_noFar : yX9_noFar.cls = RX9 ∧ yX9_noFar.cls ≠ "java/lang/invoke/MethodHandle" ∧ yX9_noFar.cls ≠ "java/lang/invoke/VarHandle" ∧ (parseMethodDescriptor yX9_noFar.desc).map (fun d => d.parameters.length) = some 1 := by decide +kernel
theorem hdX9_rise : yX9_rise.cls = RX9 ∧ yX9_rise.cls ≠ "java/lang/invoke/MethodHandle" ∧ yX9_rise.cls ≠ "java/lang/invoke/VarHandle" ∧ (parseMethodDescriptor yX9_rise.desc).map (fun d => d.parameters.length) = some 1 := by decide +kernel
theorem hdX9_signed : yX9_signed.cls = RX9 ∧ yX9_signed.cls ≠ "java/lang/invoke/MethodHandle" ∧ yX9_signed.cls ≠ "java/lang/invoke/VarHandle" ∧ (parseMethodDescriptor yX9_signed.desc).map (fun d => d.parameters.length) = some 2 := by decide +kernel
theorem hdX9_sinks : yX9_sinks.cls = RX9 ∧ yX9_sinks.cls ≠ "java/lang/invoke/MethodHandle" ∧ yX9_sinks.cls ≠ "java/lang/invoke/VarHandle" ∧ (parseMethodDescriptor yX9_sinks.desc).map (fun d => d.parameters.length) = some 1 := by decide +kernel
def fX9_isShelf (S : GS) (a1 : Int32) : Option Int32 :=
  if a1 < 0 then
    some (0 : Int32)
  else
    if (8 : Int32) ≤ a1 then
      some (0 : Int32)
    else
      some (1 : Int32)
set_option maxHeartbeats 4000000 in
set_option maxRecDepth 100000 in
theorem tcX9_isShelf (l : Launch) (G : GP) (S : GS) (a1 : Int32) {R : Int32} (hf : fX9_isShelf S a1 = some R) : CI l yX9_isShelf wsX9_isShelf 0 0 [.ref (ga G 63), .int a1] WM G S R S := by
  refine g_met RX9 (cc := cX9_isShelf) (nL := 2) (ret := (some .boolean)) (by decide) rfl rfl (Nat.le_of_ble_eq_true rfl) ?_
  intro p e s m below meth c ls X E hP hS hl
  have hl : lv_has ls 2 [(0, .ref (ga G 63)), (1, .int a1)] := hl
  obtain ⟨hx, hb, -, -, hown, hts, -⟩ := id X
  rw [fX9_isShelf] at hf
  refine lv_iload_n hx hb dX9_isShelf_0 rfl (lv_at hl 1 rfl) ?_
  refine lv_if_lt (tgt := 14) hx hb dX9_isShelf_1 (by decide) (fun c1 => ?_) (fun c1 => ?_)
  · have hf := g_ift hf c1
    refine lv_iconst (v := 0) hx hb dX9_isShelf_14 (by decide) ?_
    obtain rfl := g_some hf
    exact g_rz (v := (0 : Int32)) X E hP hS rfl dX9_isShelf_15
  · have hf := g_iff hf c1
    refine lv_iload_n hx hb dX9_isShelf_4 rfl (lv_at hl 1 rfl) ?_
    refine lv_bipush (v := 8) hx hb dX9_isShelf_5 (by decide) ?_
    refine lv_icmp_ge (tgt := 14) hx hb dX9_isShelf_7 (by decide) (fun c2 => ?_) (fun c2 => ?_)
    · have hf := g_ift hf c2
      refine lv_iconst (v := 0) hx hb dX9_isShelf_14 (by decide) ?_
      obtain rfl := g_some hf
      exact g_rz (v := (0 : Int32)) X E hP hS rfl dX9_isShelf_15
    · have hf := g_iff hf c2
      refine lv_iconst (v := 1) hx hb dX9_isShelf_10 (by decide) ?_
      refine lv_goto (tgt := 15) hx hb dX9_isShelf_11 (by decide) ?_
      obtain rfl := g_some hf
      exact g_rz (v := (1 : Int32)) X E hP hS rfl dX9_isShelf_15
theorem lkX9_no_0 : Cond.fieldLink RX9 22 RX9 "refused" "[I" ∈ wsX9_no := by decide +kernel
theorem inX9_no_X9 : ∀ w ∈ wsX90, w ∈ wsX9_no := by decide +kernel
def fX9_no (S : GS) (a1 : Int32) : Option (Int32 × GS) :=
  if (-a1) < 0 ∨ 8 ≤ (-a1).toNatClampNeg then none else
  if (-a1) < 0 ∨ 8 ≤ (-a1).toNatClampNeg then none else
  some (a1, (gU3 S 6 (-a1).toNatClampNeg ((S.2.2.1 6 (-a1).toNatClampNeg) + (1 : Int32))))
set_option maxHeartbeats 4000000 in
set_option maxRecDepth 100000 in
theorem tcX9_no (l : Launch) (G : GP) (S : GS) (a1 : Int32) {R : (Int32 × GS)} (hf : fX9_no S a1 = some R) : CI l yX9_no wsX9_no 0 0 [.ref (ga G 63), .int a1] WM G S R.1 R.2 := by
  refine g_met RX9 (cc := cX9_no) (nL := 2) (ret := (some .int)) (by decide) rfl rfl (Nat.le_of_ble_eq_true rfl) ?_
  intro p e s m below meth c ls X E hP hS hl
  have hl : lv_has ls 2 [(0, .ref (ga G 63)), (1, .int a1)] := hl
  obtain ⟨hx, hb, -, -, hown, hts, -⟩ := id X
  rw [fX9_no] at hf
  refine lv_aload_n hx hb dX9_no_0 rfl (lv_at hl 0 rfl) ?_
  refine ggM_6 X E hP inX9_no_X9 lkX9_no_0 dX9_no_1 ?_
  refine lv_iload_n hx hb dX9_no_4 rfl (lv_at hl 1 rfl) ?_
  refine lv_ineg hx hb dX9_no_5 ?_
  refine lv_dup2_11 hx hb dX9_no_6 rfl rfl ?_
  obtain ⟨b1, hf⟩ := g_if hf
  refine giM_6 X E hP b1 dX9_no_7 ?_
  refine lv_iconst (v := 1) hx hb dX9_no_8 (by decide) ?_
  refine lv_iadd hx hb dX9_no_9 ?_
  obtain ⟨b2, hf⟩ := g_if hf
  refine gsM_6 X E hP hS b2 dX9_no_10 (fun H locs hP hS => ?_)
  refine lv_iload_n hx hb dX9_no_11 rfl (lv_at hl 1 rfl) ?_
  obtain rfl := g_some hf
  exact g_ri X E hP hS dX9_no_12
theorem lkX9_row_0 : Cond.fieldLink RX9 50 RX9 "held" "[I" ∈ wsX9_row := by decide +kernel
theorem lkX9_row_1 : Cond.fieldLink RX9 53 RX9 "sort" "[I" ∈ wsX9_row := by decide +kernel
theorem lkX9_row_2 : Cond.fieldLink RX9 56 RX9 "size" "[I" ∈ wsX9_row := by decide +kernel
theorem lkX9_row_3 : Cond.fieldLink RX9 62 RX9 "cells" "[J" ∈ wsX9_row := by decide +kernel
theorem inX9_row_X9 : ∀ w ∈ wsX90, w ∈ wsX9_row := by decide +kernel
def fX9_row_79 : Nat → GS → Int32 → Int32 → Option GS
  | 0, _, _, _ => none
  | fu + 1, S, v1, v4 =>
    if (160 : Int32) ≤ v4 then
      some S
    else
      if (((160 : Int32) * v1) + v4) < 0 ∨ 1280 ≤ (((160 : Int32) * v1) + v4).toNatClampNeg then none else
      fX9_row_79 fu (gU4 S 19 (((160 : Int32) * v1) + v4).toNatClampNeg (0 : Int64)) v1 (v4 + 1)
set_option maxHeartbeats 4000000 in
set_option maxRecDepth 100000 in
theorem bX9_row_79 {p : Program} {l : Launch} {e : Env} {s : State} {m : MethodId} {args : Array Value} {below : List Frame} {meth : Method} {c : Code} {Q : State → Prop} {G : GP} (X : GX p s m meth c args cX9_row 5 (some .int) wsX9_row RX9) (E : gE WM G s)  : ∀ (fu : Nat) (S : GS) (v1 : Int32) (v4 : Int32) (R : GS) (H : Heap) (locs : List Loc) (ls : Array Slot) (_ : fX9_row_79 fu S v1 v4 = some R) (_ : va_P (gD G) vwCl (WM G S ++ gF G) H) (_ : va_S (gA G) s.heap H locs) (_ : lv_has ls 5 [(0, .ref (ga G 63)), (1, .int v1), (4, .int v4)]) (_ : ∀ (H : Heap) (locs : List Loc) (ls : Array Slot), va_P (gD G) vwCl (WM G R ++ gF G) H → va_S (gA G) s.heap H locs → lv_has ls 5 [] → W p l e (gR 1 21) s m args below meth c H locs 0 0 Q (F0 m 107 ls [])), W p l e (gR 1 21) s m args below meth c H locs 0 0 Q (F0 m 79 ls []) := by
  obtain ⟨hx, hb, -, -, hown, hts, -⟩ := id X
  intro fu
  induction fu with
  | zero =>
    intro S v1 v4 R H locs ls hf
    cases (show (none : Option GS) = some R from hf)
  | succ fu ih =>
    intro S v1 v4 R H locs ls hf hP hS hl kk
    rw [fX9_row_79] at hf
    refine lv_iload hx hb dX9_row_79 (lv_at hl 2 rfl) ?_
    refine lv_sipush (v := 160) hx hb dX9_row_81 (by decide) ?_
    refine lv_icmp_ge (tgt := 107) hx hb dX9_row_84 (by decide) (fun c13 => ?_) (fun c13 => ?_)
    · have hf := g_ift hf c13
      obtain rfl := g_some hf
      exact kk _ _ _ hP hS (lv_sub hl [] rfl)
    · have hf := g_iff hf c13
      refine lv_aload_n hx hb dX9_row_87 rfl (lv_at hl 0 rfl) ?_
      refine ggM_19 X E hP inX9_row_X9 lkX9_row_3 dX9_row_88 ?_
      refine lv_sipush (v := 160) hx hb dX9_row_91 (by decide) ?_
      refine lv_iload_n hx hb dX9_row_94 rfl (lv_at hl 1 rfl) ?_
      refine lv_imul hx hb dX9_row_95 ?_
      refine lv_iload hx hb dX9_row_96 (lv_at hl 2 rfl) ?_
      refine lv_iadd hx hb dX9_row_98 ?_
      refine lv_lconst (v := 0) hx hb dX9_row_99 (by decide) ?_
      obtain ⟨b14, hf⟩ := g_if hf
      refine gsM_19 X E hP hS b14 dX9_row_100 (fun H locs hP hS => ?_)
      refine lv_iinc (v := (v4 + 1)) (lv' := [(4, .int (v4 + 1)), (0, .ref (ga G 63)), (1, .int v1)]) hx hb dX9_row_101 hl (k := 2) rfl rfl (by decide) rfl (fun ls hl => ?_)
      refine lv_goto (tgt := 79) hx hb dX9_row_104 (by decide) ?_
      exact ih _ _ _ _ _ _ _ hf hP hS (lv_sub hl [1, 2, 0] rfl) kk
def fX9_row (S : GS) (a1 : Int32) (a2 : Int32) (a3 : Int32) : Option (Int32 × GS) :=
  (fX9_isShelf S a1).bind fun u1 =>
  if u1 = 0 then
    (fX9_no S (-1 : Int32)).bind fun u23 =>
    some (u23.1, u23.2)
  else
    if 0 ≤ a3 then
      if a2 < 0 then
        (fX9_no S (-6 : Int32)).bind fun u6 =>
        some (u6.1, u6.2)
      else
        if a2 ≤ (3 : Int32) then
          if a3 ≤ (160 : Int32) then
            if a1 < 0 ∨ 8 ≤ (a1).toNatClampNeg then none else
            if a1 < 0 ∨ 8 ≤ (a1).toNatClampNeg then none else
            if a1 < 0 ∨ 8 ≤ (a1).toNatClampNeg then none else
            (fX9_row_79 gFuel (gU3 (gU3 (gU3 S 15 (a1).toNatClampNeg (1 : Int32)) 16 (a1).toNatClampNeg a2) 17 (a1).toNatClampNeg a3) a1 (0 : Int32)).bind fun u15 =>
            some ((1 : Int32), u15)
          else
            (fX9_no S (-7 : Int32)).bind fun u17 =>
            some (u17.1, u17.2)
        else
          (fX9_no S (-6 : Int32)).bind fun u19 =>
          some (u19.1, u19.2)
    else
      (fX9_no S (-4 : Int32)).bind fun u21 =>
      some (u21.1, u21.2)
set_option maxHeartbeats 4000000 in
set_option maxRecDepth 100000 in
theorem tcX9_row (l : Launch) (G : GP) (S : GS) (a1 : Int32) (a2 : Int32) (a3 : Int32) {R : (Int32 × GS)} (hf : fX9_row S a1 a2 a3 = some R) : CI l yX9_row wsX9_row 1 21 [.ref (ga G 63), .int a1, .int a2, .int a3] WM G S R.1 R.2 := by
  refine g_met RX9 (cc := cX9_row) (nL := 5) (ret := (some .int)) (by decide) rfl rfl (Nat.le_of_ble_eq_true rfl) ?_
  intro p e s m below meth c ls X E hP hS hl
  have hl : lv_has ls 5 [(0, .ref (ga G 63)), (1, .int a1), (2, .int a2), (3, .int a3)] := hl
  obtain ⟨hx, hb, -, -, hown, hts, -⟩ := id X
  rw [fX9_row] at hf
  refine lv_aload_n hx hb dX9_row_0 rfl (lv_at hl 0 rfl) ?_
  refine lv_iload_n hx hb dX9_row_1 rfl (lv_at hl 1 rfl) ?_
  obtain ⟨u1, h2, hf⟩ := g_bind hf
  refine g_vi (rest := []) X E hP hS (tcX9_isShelf l G _ _ h2) (g_cwV X gX9_row_X9_isShelf rfl hdX9_isShelf ⟨Nat.le_of_ble_eq_true rfl, Nat.le_of_ble_eq_true rfl⟩) (rcM_model E hP) rfl hl.1 rfl (Nat.le_of_ble_eq_true rfl) dX9_row_2 ⟨Nat.le_refl _, Nat.le_refl _⟩ (fun H locs hP hS => ?_)
  refine lv_if_ne (tgt := 14) hx hb dX9_row_5 (by decide) (fun c3 => ?_) (fun c3 => ?_)
  · have hf := g_iff hf c3
    refine lv_iload_n hx hb dX9_row_14 rfl (lv_at hl 3 rfl) ?_
    refine lv_if_ge (tgt := 25) hx hb dX9_row_15 (by decide) (fun c4 => ?_) (fun c4 => ?_)
    · have hf := g_ift hf c4
      refine lv_iload_n hx hb dX9_row_25 rfl (lv_at hl 2 rfl) ?_
      refine lv_if_lt (tgt := 34) hx hb dX9_row_26 (by decide) (fun c5 => ?_) (fun c5 => ?_)
      · have hf := g_ift hf c5
        refine lv_aload_n hx hb dX9_row_34 rfl (lv_at hl 0 rfl) ?_
        refine lv_bipush (v := -6) hx hb dX9_row_35 (by decide) ?_
        obtain ⟨u6, h7, hf⟩ := g_bind hf
        refine g_vi (rest := []) X E hP hS (tcX9_no l G _ _ h7) (g_cwV X gX9_row_X9_no rfl hdX9_no ⟨Nat.le_of_ble_eq_true rfl, Nat.le_of_ble_eq_true rfl⟩) (rcM_model E hP) rfl hl.1 rfl (Nat.le_of_ble_eq_true rfl) dX9_row_37 ⟨Nat.le_refl _, Nat.le_refl _⟩ (fun H locs hP hS => ?_)
        obtain rfl := g_some hf
        exact g_ri X E hP hS dX9_row_40
      · have hf := g_iff hf c5
        refine lv_iload_n hx hb dX9_row_29 rfl (lv_at hl 2 rfl) ?_
        refine lv_iconst (v := 3) hx hb dX9_row_30 (by decide) ?_
        refine lv_icmp_le (tgt := 41) hx hb dX9_row_31 (by decide) (fun c8 => ?_) (fun c8 => ?_)
        · have hf := g_ift hf c8
          refine lv_iload_n hx hb dX9_row_41 rfl (lv_at hl 3 rfl) ?_
          refine lv_sipush (v := 160) hx hb dX9_row_42 (by decide) ?_
          refine lv_icmp_le (tgt := 55) hx hb dX9_row_45 (by decide) (fun c9 => ?_) (fun c9 => ?_)
          · have hf := g_ift hf c9
            refine lv_aload_n hx hb dX9_row_55 rfl (lv_at hl 0 rfl) ?_
            refine ggM_15 X E hP inX9_row_X9 lkX9_row_0 dX9_row_56 ?_
            refine lv_iload_n hx hb dX9_row_59 rfl (lv_at hl 1 rfl) ?_
            refine lv_iconst (v := 1) hx hb dX9_row_60 (by decide) ?_
            obtain ⟨b10, hf⟩ := g_if hf
            refine gsM_15 X E hP hS b10 dX9_row_61 (fun H locs hP hS => ?_)
            refine lv_aload_n hx hb dX9_row_62 rfl (lv_at hl 0 rfl) ?_
            refine ggM_16 X E hP inX9_row_X9 lkX9_row_1 dX9_row_63 ?_
            refine lv_iload_n hx hb dX9_row_66 rfl (lv_at hl 1 rfl) ?_
            refine lv_iload_n hx hb dX9_row_67 rfl (lv_at hl 2 rfl) ?_
            obtain ⟨b11, hf⟩ := g_if hf
            refine gsM_16 X E hP hS b11 dX9_row_68 (fun H locs hP hS => ?_)
            refine lv_aload_n hx hb dX9_row_69 rfl (lv_at hl 0 rfl) ?_
            refine ggM_17 X E hP inX9_row_X9 lkX9_row_2 dX9_row_70 ?_
            refine lv_iload_n hx hb dX9_row_73 rfl (lv_at hl 1 rfl) ?_
            refine lv_iload_n hx hb dX9_row_74 rfl (lv_at hl 3 rfl) ?_
            obtain ⟨b12, hf⟩ := g_if hf
            refine gsM_17 X E hP hS b12 dX9_row_75 (fun H locs hP hS => ?_)
            refine lv_iconst (v := 0) hx hb dX9_row_76 (by decide) ?_
            refine lv_istore (lv' := [(4, .int (0 : Int32)), (0, .ref (ga G 63)), (1, .int a1), (2, .int a2), (3, .int a3)]) hx hb dX9_row_77 hl (by decide) rfl (fun ls hl => ?_)
            obtain ⟨u15, h16, hf⟩ := g_bind hf
            refine bX9_row_79 X E gFuel _ _ _ u15 _ _ _ h16 hP hS (lv_sub hl [1, 2, 0] rfl) (fun H locs ls hP hS hl => ?_)
            have hl : lv_has ls 5 [] := hl
            have hP : va_P (gD G) vwCl (WM G u15 ++ gF G) H := hP
            refine lv_iconst (v := 1) hx hb dX9_row_107 (by decide) ?_
            obtain rfl := g_some hf
            exact g_ri X E hP hS dX9_row_108
          · have hf := g_iff hf c9
            refine lv_aload_n hx hb dX9_row_48 rfl (lv_at hl 0 rfl) ?_
            refine lv_bipush (v := -7) hx hb dX9_row_49 (by decide) ?_
            obtain ⟨u17, h18, hf⟩ := g_bind hf
            refine g_vi (rest := []) X E hP hS (tcX9_no l G _ _ h18) (g_cwV X gX9_row_X9_no rfl hdX9_no ⟨Nat.le_of_ble_eq_true rfl, Nat.le_of_ble_eq_true rfl⟩) (rcM_model E hP) rfl hl.1 rfl (Nat.le_of_ble_eq_true rfl) dX9_row_51 ⟨Nat.le_refl _, Nat.le_refl _⟩ (fun H locs hP hS => ?_)
            obtain rfl := g_some hf
            exact g_ri X E hP hS dX9_row_54
        · have hf := g_iff hf c8
          refine lv_aload_n hx hb dX9_row_34 rfl (lv_at hl 0 rfl) ?_
          refine lv_bipush (v := -6) hx hb dX9_row_35 (by decide) ?_
          obtain ⟨u19, h20, hf⟩ := g_bind hf
          refine g_vi (rest := []) X E hP hS (tcX9_no l G _ _ h20) (g_cwV X gX9_row_X9_no rfl hdX9_no ⟨Nat.le_of_ble_eq_true rfl, Nat.le_of_ble_eq_true rfl⟩) (rcM_model E hP) rfl hl.1 rfl (Nat.le_of_ble_eq_true rfl) dX9_row_37 ⟨Nat.le_refl _, Nat.le_refl _⟩ (fun H locs hP hS => ?_)
          obtain rfl := g_some hf
          exact g_ri X E hP hS dX9_row_40
    · have hf := g_iff hf c4
      refine lv_aload_n hx hb dX9_row_18 rfl (lv_at hl 0 rfl) ?_
      refine lv_bipush (v := -4) hx hb dX9_row_19 (by decide) ?_
      obtain ⟨u21, h22, hf⟩ := g_bind hf
      refine g_vi (rest := []) X E hP hS (tcX9_no l G _ _ h22) (g_cwV X gX9_row_X9_no rfl hdX9_no ⟨Nat.le_of_ble_eq_true rfl, Nat.le_of_ble_eq_true rfl⟩) (rcM_model E hP) rfl hl.1 rfl (Nat.le_of_ble_eq_true rfl) dX9_row_21 ⟨Nat.le_refl _, Nat.le_refl _⟩ (fun H locs hP hS => ?_)
      obtain rfl := g_some hf
      exact g_ri X E hP hS dX9_row_24
  · have hf := g_ift hf c3
    refine lv_aload_n hx hb dX9_row_8 rfl (lv_at hl 0 rfl) ?_
    refine lv_iconst (v := -1) hx hb dX9_row_9 (by decide) ?_
    obtain ⟨u23, h24, hf⟩ := g_bind hf
    refine g_vi (rest := []) X E hP hS (tcX9_no l G _ _ h24) (g_cwV X gX9_row_X9_no rfl hdX9_no ⟨Nat.le_of_ble_eq_true rfl, Nat.le_of_ble_eq_true rfl⟩) (rcM_model E hP) rfl hl.1 rfl (Nat.le_of_ble_eq_true rfl) dX9_row_10 ⟨Nat.le_refl _, Nat.le_refl _⟩ (fun H locs hP hS => ?_)
    obtain rfl := g_some hf
    exact g_ri X E hP hS dX9_row_13
theorem lkX9_set_0 : Cond.fieldLink RX9 50 RX9 "held" "[I" ∈ wsX9_set := by decide +kernel
theorem lkX9_set_1 : Cond.fieldLink RX9 56 RX9 "size" "[I" ∈ wsX9_set := by decide +kernel
theorem lkX9_set_2 : Cond.fieldLink RX9 62 RX9 "cells" "[J" ∈ wsX9_set := by decide +kernel
theorem lkX9_set_3 : Cond.fieldLink RX9 53 RX9 "sort" "[I" ∈ wsX9_set := by decide +kernel
theorem inX9_set_X9 : ∀ w ∈ wsX90, w ∈ wsX9_set := by decide +kernel
def fX9_set (S : GS) (a1 : Int32) (a2 : Int32) (a3 : Int64) : Option (Int32 × GS) :=
  (fX9_isShelf S a1).bind fun u1 =>
  if u1 = 0 then
    (fX9_no S (-1 : Int32)).bind fun u29 =>
    some (u29.1, u29.2)
  else
    if a1 < 0 ∨ 8 ≤ (a1).toNatClampNeg then none else
    if (S.2.2.1 15 (a1).toNatClampNeg) = (2 : Int32) then
      (fX9_no S (-2 : Int32)).bind fun u27 =>
      some (u27.1, u27.2)
    else
      if a1 < 0 ∨ 8 ≤ (a1).toNatClampNeg then none else
      if (S.2.2.1 15 (a1).toNatClampNeg) = 0 then
        (fX9_no S (-3 : Int32)).bind fun u25 =>
        some (u25.1, u25.2)
      else
        if a2 < 0 then
          (fX9_no S (-5 : Int32)).bind fun u9 =>
          some (u9.1, u9.2)
        else
          if a1 < 0 ∨ 8 ≤ (a1).toNatClampNeg then none else
          if a2 < (S.2.2.1 17 (a1).toNatClampNeg) then
            if a1 < 0 ∨ 8 ≤ (a1).toNatClampNeg then none else
            if (S.2.2.1 16 (a1).toNatClampNeg) = 0 then
              if (((160 : Int32) * a1) + a2) < 0 ∨ 1280 ≤ (((160 : Int32) * a1) + a2).toNatClampNeg then none else
              some ((1 : Int32), (gU4 S 19 (((160 : Int32) * a1) + a2).toNatClampNeg ((((a3).toInt32).toInt8.toInt32).toInt64)))
            else
              if a1 < 0 ∨ 8 ≤ (a1).toNatClampNeg then none else
              if (S.2.2.1 16 (a1).toNatClampNeg) = (1 : Int32) then
                if (((160 : Int32) * a1) + a2) < 0 ∨ 1280 ≤ (((160 : Int32) * a1) + a2).toNatClampNeg then none else
                some ((1 : Int32), (gU4 S 19 (((160 : Int32) * a1) + a2).toNatClampNeg ((((a3).toInt32).toInt16.toInt32).toInt64)))
              else
                if a1 < 0 ∨ 8 ≤ (a1).toNatClampNeg then none else
                if (S.2.2.1 16 (a1).toNatClampNeg) = (2 : Int32) then
                  if (((160 : Int32) * a1) + a2) < 0 ∨ 1280 ≤ (((160 : Int32) * a1) + a2).toNatClampNeg then none else
                  some ((1 : Int32), (gU4 S 19 (((160 : Int32) * a1) + a2).toNatClampNeg (((a3).toInt32).toInt64)))
                else
                  if (((160 : Int32) * a1) + a2) < 0 ∨ 1280 ≤ (((160 : Int32) * a1) + a2).toNatClampNeg then none else
                  some ((1 : Int32), (gU4 S 19 (((160 : Int32) * a1) + a2).toNatClampNeg a3))
          else
            (fX9_no S (-5 : Int32)).bind fun u23 =>
            some (u23.1, u23.2)
set_option maxHeartbeats 4000000 in
set_option maxRecDepth 100000 in
theorem tcX9_set (l : Launch) (G : GP) (S : GS) (a1 : Int32) (a2 : Int32) (a3 : Int64) {R : (Int32 × GS)} (hf : fX9_set S a1 a2 a3 = some R) : CI l yX9_set wsX9_set 1 21 [.ref (ga G 63), .int a1, .int a2, .long a3] WM G S R.1 R.2 := by
  refine g_met RX9 (cc := cX9_set) (nL := 5) (ret := (some .int)) (by decide) rfl rfl (Nat.le_of_ble_eq_true rfl) ?_
  intro p e s m below meth c ls X E hP hS hl
  have hl : lv_has ls 5 [(0, .ref (ga G 63)), (1, .int a1), (2, .int a2), (3, .long a3)] := hl
  obtain ⟨hx, hb, -, -, hown, hts, -⟩ := id X
  rw [fX9_set] at hf
  refine lv_aload_n hx hb dX9_set_0 rfl (lv_at hl 0 rfl) ?_
  refine lv_iload_n hx hb dX9_set_1 rfl (lv_at hl 1 rfl) ?_
  obtain ⟨u1, h2, hf⟩ := g_bind hf
  refine g_vi (rest := []) X E hP hS (tcX9_isShelf l G _ _ h2) (g_cwV X gX9_set_X9_isShelf rfl hdX9_isShelf ⟨Nat.le_of_ble_eq_true rfl, Nat.le_of_ble_eq_true rfl⟩) (rcM_model E hP) rfl hl.1 rfl (Nat.le_of_ble_eq_true rfl) dX9_set_2 ⟨Nat.le_refl _, Nat.le_refl _⟩ (fun H locs hP hS => ?_)
  refine lv_if_ne (tgt := 14) hx hb dX9_set_5 (by decide) (fun c3 => ?_) (fun c3 => ?_)
  · have hf := g_iff hf c3
    refine lv_aload_n hx hb dX9_set_14 rfl (lv_at hl 0 rfl) ?_
    refine ggM_15 X E hP inX9_set_X9 lkX9_set_0 dX9_set_15 ?_
    refine lv_iload_n hx hb dX9_set_18 rfl (lv_at hl 1 rfl) ?_
    obtain ⟨b4, hf⟩ := g_if hf
    refine giM_15 X E hP b4 dX9_set_19 ?_
    refine lv_iconst (v := 2) hx hb dX9_set_20 (by decide) ?_
    refine lv_icmp_ne (tgt := 31) hx hb dX9_set_21 (by decide) (fun c5 => ?_) (fun c5 => ?_)
    · have hf := g_iff hf c5
      refine lv_aload_n hx hb dX9_set_31 rfl (lv_at hl 0 rfl) ?_
      refine ggM_15 X E hP inX9_set_X9 lkX9_set_0 dX9_set_32 ?_
      refine lv_iload_n hx hb dX9_set_35 rfl (lv_at hl 1 rfl) ?_
      obtain ⟨b6, hf⟩ := g_if hf
      refine giM_15 X E hP b6 dX9_set_36 ?_
      refine lv_if_ne (tgt := 47) hx hb dX9_set_37 (by decide) (fun c7 => ?_) (fun c7 => ?_)
      · have hf := g_iff hf c7
        refine lv_iload_n hx hb dX9_set_47 rfl (lv_at hl 2 rfl) ?_
        refine lv_if_lt (tgt := 61) hx hb dX9_set_48 (by decide) (fun c8 => ?_) (fun c8 => ?_)
        · have hf := g_ift hf c8
          refine lv_aload_n hx hb dX9_set_61 rfl (lv_at hl 0 rfl) ?_
          refine lv_bipush (v := -5) hx hb dX9_set_62 (by decide) ?_
          obtain ⟨u9, h10, hf⟩ := g_bind hf
          refine g_vi (rest := []) X E hP hS (tcX9_no l G _ _ h10) (g_cwV X gX9_set_X9_no rfl hdX9_no ⟨Nat.le_of_ble_eq_true rfl, Nat.le_of_ble_eq_true rfl⟩) (rcM_model E hP) rfl hl.1 rfl (Nat.le_of_ble_eq_true rfl) dX9_set_64 ⟨Nat.le_refl _, Nat.le_refl _⟩ (fun H locs hP hS => ?_)
          obtain rfl := g_some hf
          exact g_ri X E hP hS dX9_set_67
        · have hf := g_iff hf c8
          refine lv_iload_n hx hb dX9_set_51 rfl (lv_at hl 2 rfl) ?_
          refine lv_aload_n hx hb dX9_set_52 rfl (lv_at hl 0 rfl) ?_
          refine ggM_17 X E hP inX9_set_X9 lkX9_set_1 dX9_set_53 ?_
          refine lv_iload_n hx hb dX9_set_56 rfl (lv_at hl 1 rfl) ?_
          obtain ⟨b11, hf⟩ := g_if hf
          refine giM_17 X E hP b11 dX9_set_57 ?_
          refine lv_icmp_lt (tgt := 68) hx hb dX9_set_58 (by decide) (fun c12 => ?_) (fun c12 => ?_)
          · have hf := g_ift hf c12
            refine lv_aload_n hx hb dX9_set_68 rfl (lv_at hl 0 rfl) ?_
            refine ggM_19 X E hP inX9_set_X9 lkX9_set_2 dX9_set_69 ?_
            refine lv_sipush (v := 160) hx hb dX9_set_72 (by decide) ?_
            refine lv_iload_n hx hb dX9_set_75 rfl (lv_at hl 1 rfl) ?_
            refine lv_imul hx hb dX9_set_76 ?_
            refine lv_iload_n hx hb dX9_set_77 rfl (lv_at hl 2 rfl) ?_
            refine lv_iadd hx hb dX9_set_78 ?_
            refine lv_aload_n hx hb dX9_set_79 rfl (lv_at hl 0 rfl) ?_
            refine ggM_16 X E hP inX9_set_X9 lkX9_set_3 dX9_set_80 ?_
            refine lv_iload_n hx hb dX9_set_83 rfl (lv_at hl 1 rfl) ?_
            obtain ⟨b13, hf⟩ := g_if hf
            refine giM_16 X E hP b13 dX9_set_84 ?_
            refine lv_if_ne (tgt := 95) hx hb dX9_set_85 (by decide) (fun c14 => ?_) (fun c14 => ?_)
            · have hf := g_iff hf c14
              refine lv_aload_n hx hb dX9_set_95 rfl (lv_at hl 0 rfl) ?_
              refine ggM_16 X E hP inX9_set_X9 lkX9_set_3 dX9_set_96 ?_
              refine lv_iload_n hx hb dX9_set_99 rfl (lv_at hl 1 rfl) ?_
              obtain ⟨b15, hf⟩ := g_if hf
              refine giM_16 X E hP b15 dX9_set_100 ?_
              refine lv_iconst (v := 1) hx hb dX9_set_101 (by decide) ?_
              refine lv_icmp_ne (tgt := 112) hx hb dX9_set_102 (by decide) (fun c16 => ?_) (fun c16 => ?_)
              · have hf := g_iff hf c16
                refine lv_aload_n hx hb dX9_set_112 rfl (lv_at hl 0 rfl) ?_
                refine ggM_16 X E hP inX9_set_X9 lkX9_set_3 dX9_set_113 ?_
                refine lv_iload_n hx hb dX9_set_116 rfl (lv_at hl 1 rfl) ?_
                obtain ⟨b17, hf⟩ := g_if hf
                refine giM_16 X E hP b17 dX9_set_117 ?_
                refine lv_iconst (v := 2) hx hb dX9_set_118 (by decide) ?_
                refine lv_icmp_ne (tgt := 128) hx hb dX9_set_119 (by decide) (fun c18 => ?_) (fun c18 => ?_)
                · have hf := g_iff hf c18
                  refine lv_lload_n hx hb dX9_set_128 rfl (lv_at hl 3 rfl) ?_
                  obtain ⟨b19, hf⟩ := g_if hf
                  refine gsM_19 X E hP hS b19 dX9_set_129 (fun H locs hP hS => ?_)
                  refine lv_iconst (v := 1) hx hb dX9_set_130 (by decide) ?_
                  obtain rfl := g_some hf
                  exact g_ri X E hP hS dX9_set_131
                · have hf := g_ift hf c18
                  refine lv_lload_n hx hb dX9_set_122 rfl (lv_at hl 3 rfl) ?_
                  refine lv_l2i hx hb dX9_set_123 rfl ?_
                  refine lv_i2l hx hb dX9_set_124 rfl ?_
                  refine lv_goto (tgt := 129) hx hb dX9_set_125 (by decide) ?_
                  obtain ⟨b20, hf⟩ := g_if hf
                  refine gsM_19 X E hP hS b20 dX9_set_129 (fun H locs hP hS => ?_)
                  refine lv_iconst (v := 1) hx hb dX9_set_130 (by decide) ?_
                  obtain rfl := g_some hf
                  exact g_ri X E hP hS dX9_set_131
              · have hf := g_ift hf c16
                refine lv_lload_n hx hb dX9_set_105 rfl (lv_at hl 3 rfl) ?_
                refine lv_l2i hx hb dX9_set_106 rfl ?_
                refine lv_i2s hx hb dX9_set_107 rfl ?_
                refine lv_i2l hx hb dX9_set_108 rfl ?_
                refine lv_goto (tgt := 129) hx hb dX9_set_109 (by decide) ?_
                obtain ⟨b21, hf⟩ := g_if hf
                refine gsM_19 X E hP hS b21 dX9_set_129 (fun H locs hP hS => ?_)
                refine lv_iconst (v := 1) hx hb dX9_set_130 (by decide) ?_
                obtain rfl := g_some hf
                exact g_ri X E hP hS dX9_set_131
            · have hf := g_ift hf c14
              refine lv_lload_n hx hb dX9_set_88 rfl (lv_at hl 3 rfl) ?_
              refine lv_l2i hx hb dX9_set_89 rfl ?_
              refine lv_i2b hx hb dX9_set_90 rfl ?_
              refine lv_i2l hx hb dX9_set_91 rfl ?_
              refine lv_goto (tgt := 129) hx hb dX9_set_92 (by decide) ?_
              obtain ⟨b22, hf⟩ := g_if hf
              refine gsM_19 X E hP hS b22 dX9_set_129 (fun H locs hP hS => ?_)
              refine lv_iconst (v := 1) hx hb dX9_set_130 (by decide) ?_
              obtain rfl := g_some hf
              exact g_ri X E hP hS dX9_set_131
          · have hf := g_iff hf c12
            refine lv_aload_n hx hb dX9_set_61 rfl (lv_at hl 0 rfl) ?_
            refine lv_bipush (v := -5) hx hb dX9_set_62 (by decide) ?_
            obtain ⟨u23, h24, hf⟩ := g_bind hf
            refine g_vi (rest := []) X E hP hS (tcX9_no l G _ _ h24) (g_cwV X gX9_set_X9_no rfl hdX9_no ⟨Nat.le_of_ble_eq_true rfl, Nat.le_of_ble_eq_true rfl⟩) (rcM_model E hP) rfl hl.1 rfl (Nat.le_of_ble_eq_true rfl) dX9_set_64 ⟨Nat.le_refl _, Nat.le_refl _⟩ (fun H locs hP hS => ?_)
            obtain rfl := g_some hf
            exact g_ri X E hP hS dX9_set_67
      · have hf := g_ift hf c7
        refine lv_aload_n hx hb dX9_set_40 rfl (lv_at hl 0 rfl) ?_
        refine lv_bipush (v := -3) hx hb dX9_set_41 (by decide) ?_
        obtain ⟨u25, h26, hf⟩ := g_bind hf
        refine g_vi (rest := []) X E hP hS (tcX9_no l G _ _ h26) (g_cwV X gX9_set_X9_no rfl hdX9_no ⟨Nat.le_of_ble_eq_true rfl, Nat.le_of_ble_eq_true rfl⟩) (rcM_model E hP) rfl hl.1 rfl (Nat.le_of_ble_eq_true rfl) dX9_set_43 ⟨Nat.le_refl _, Nat.le_refl _⟩ (fun H locs hP hS => ?_)
        obtain rfl := g_some hf
        exact g_ri X E hP hS dX9_set_46
    · have hf := g_ift hf c5
      refine lv_aload_n hx hb dX9_set_24 rfl (lv_at hl 0 rfl) ?_
      refine lv_bipush (v := -2) hx hb dX9_set_25 (by decide) ?_
      obtain ⟨u27, h28, hf⟩ := g_bind hf
      refine g_vi (rest := []) X E hP hS (tcX9_no l G _ _ h28) (g_cwV X gX9_set_X9_no rfl hdX9_no ⟨Nat.le_of_ble_eq_true rfl, Nat.le_of_ble_eq_true rfl⟩) (rcM_model E hP) rfl hl.1 rfl (Nat.le_of_ble_eq_true rfl) dX9_set_27 ⟨Nat.le_refl _, Nat.le_refl _⟩ (fun H locs hP hS => ?_)
      obtain rfl := g_some hf
      exact g_ri X E hP hS dX9_set_30
  · have hf := g_ift hf c3
    refine lv_aload_n hx hb dX9_set_8 rfl (lv_at hl 0 rfl) ?_
    refine lv_iconst (v := -1) hx hb dX9_set_9 (by decide) ?_
    obtain ⟨u29, h30, hf⟩ := g_bind hf
    refine g_vi (rest := []) X E hP hS (tcX9_no l G _ _ h30) (g_cwV X gX9_set_X9_no rfl hdX9_no ⟨Nat.le_of_ble_eq_true rfl, Nat.le_of_ble_eq_true rfl⟩) (rcM_model E hP) rfl hl.1 rfl (Nat.le_of_ble_eq_true rfl) dX9_set_10 ⟨Nat.le_refl _, Nat.le_refl _⟩ (fun H locs hP hS => ?_)
    obtain rfl := g_some hf
    exact g_ri X E hP hS dX9_set_13
theorem lkX9_copy_0 : Cond.fieldLink RX9 50 RX9 "held" "[I" ∈ wsX9_copy := by decide +kernel
theorem lkX9_copy_1 : Cond.fieldLink RX9 56 RX9 "size" "[I" ∈ wsX9_copy := by decide +kernel
theorem lkX9_copy_2 : Cond.fieldLink RX9 66 RX9 "carried" "[J" ∈ wsX9_copy := by decide +kernel
theorem lkX9_copy_3 : Cond.fieldLink RX9 62 RX9 "cells" "[J" ∈ wsX9_copy := by decide +kernel
theorem lkX9_copy_4 : Cond.fieldLink RX9 53 RX9 "sort" "[I" ∈ wsX9_copy := by decide +kernel
theorem inX9_copy_X9 : ∀ w ∈ wsX90, w ∈ wsX9_copy := by decide +kernel
def fX9_copy_167 : Nat → GS → Int32 → Int32 → Int32 → Int32 → Option GS
  | 0, _, _, _, _, _ => none
  | fu + 1, S, v1, v3, v5, v6 =>
    if v5 ≤ v6 then
      some S
    else
      if ((((160 : Int32) * v1) + v3) + v6) < 0 ∨ 1280 ≤ ((((160 : Int32) * v1) + v3) + v6).toNatClampNeg then none else
      if v6 < 0 ∨ 160 ≤ (v6).toNatClampNeg then none else
      fX9_copy_167 fu (gU4 S 20 (v6).toNatClampNeg (S.2.2.2 19 ((((160 : Int32) * v1) + v3) + v6).toNatClampNeg)) v1 v3 v5 (v6 + 1)
set_option maxHeartbeats 4000000 in
set_option maxRecDepth 100000 in
theorem bX9_copy_167 {p : Program} {l : Launch} {e : Env} {s : State} {m : MethodId} {args : Array Value} {below : List Frame} {meth : Method} {c : Code} {Q : State → Prop} {G : GP} (X : GX p s m meth c args cX9_copy 7 (some .int) wsX9_copy RX9) (E : gE WM G s) {v2 : Int32} {v4 : Int32} : ∀ (fu : Nat) (S : GS) (v1 : Int32) (v3 : Int32) (v5 : Int32) (v6 : Int32) (R : GS) (H : Heap) (locs : List Loc) (ls : Array Slot) (_ : fX9_copy_167 fu S v1 v3 v5 v6 = some R) (_ : va_P (gD G) vwCl (WM G S ++ gF G) H) (_ : va_S (gA G) s.heap H locs) (_ : lv_has ls 7 [(0, .ref (ga G 63)), (1, .int v1), (2, .int v2), (3, .int v3), (4, .int v4), (5, .int v5), (6, .int v6)]) (_ : ∀ (H : Heap) (locs : List Loc) (ls : Array Slot), va_P (gD G) vwCl (WM G R ++ gF G) H → va_S (gA G) s.heap H locs → lv_has ls 7 [(0, .ref (ga G 63)), (2, .int v2), (4, .int v4), (5, .int v5)] → W p l e (gR 1 21) s m args below meth c H locs 0 0 Q (F0 m 202 ls [])), W p l e (gR 1 21) s m args below meth c H locs 0 0 Q (F0 m 167 ls []) := by
  obtain ⟨hx, hb, -, -, hown, hts, -⟩ := id X
  intro fu
  induction fu with
  | zero =>
    intro S v1 v3 v5 v6 R H locs ls hf
    cases (show (none : Option GS) = some R from hf)
  | succ fu ih =>
    intro S v1 v3 v5 v6 R H locs ls hf hP hS hl kk
    rw [fX9_copy_167] at hf
    refine lv_iload hx hb dX9_copy_167 (lv_at hl 6 rfl) ?_
    refine lv_iload hx hb dX9_copy_169 (lv_at hl 5 rfl) ?_
    refine lv_icmp_ge (tgt := 202) hx hb dX9_copy_171 (by decide) (fun c38 => ?_) (fun c38 => ?_)
    · have hf := g_ift hf c38
      obtain rfl := g_some hf
      exact kk _ _ _ hP hS (lv_sub hl [0, 2, 4, 5] rfl)
    · have hf := g_iff hf c38
      refine lv_aload_n hx hb dX9_copy_174 rfl (lv_at hl 0 rfl) ?_
      refine ggM_20 X E hP inX9_copy_X9 lkX9_copy_2 dX9_copy_175 ?_
      refine lv_iload hx hb dX9_copy_178 (lv_at hl 6 rfl) ?_
      refine lv_aload_n hx hb dX9_copy_180 rfl (lv_at hl 0 rfl) ?_
      refine ggM_19 X E hP inX9_copy_X9 lkX9_copy_3 dX9_copy_181 ?_
      refine lv_sipush (v := 160) hx hb dX9_copy_184 (by decide) ?_
      refine lv_iload_n hx hb dX9_copy_187 rfl (lv_at hl 1 rfl) ?_
      refine lv_imul hx hb dX9_copy_188 ?_
      refine lv_iload_n hx hb dX9_copy_189 rfl (lv_at hl 3 rfl) ?_
      refine lv_iadd hx hb dX9_copy_190 ?_
      refine lv_iload hx hb dX9_copy_191 (lv_at hl 6 rfl) ?_
      refine lv_iadd hx hb dX9_copy_193 ?_
      obtain ⟨b39, hf⟩ := g_if hf
      refine giM_19 X E hP b39 dX9_copy_194 ?_
      obtain ⟨b40, hf⟩ := g_if hf
      refine gsM_20 X E hP hS b40 dX9_copy_195 (fun H locs hP hS => ?_)
      refine lv_iinc (v := (v6 + 1)) (lv' := [(6, .int (v6 + 1)), (0, .ref (ga G 63)), (1, .int v1), (2, .int v2), (3, .int v3), (4, .int v4), (5, .int v5)]) hx hb dX9_copy_196 hl (k := 6) rfl rfl (by decide) rfl (fun ls hl => ?_)
      refine lv_goto (tgt := 167) hx hb dX9_copy_199 (by decide) ?_
      exact ih _ _ _ _ _ _ _ _ _ hf hP hS (lv_sub hl [1, 2, 3, 4, 5, 6, 0] rfl) kk
def fX9_copy_205 : Nat → GS → Int32 → Int32 → Int32 → Int32 → Option GS
  | 0, _, _, _, _, _ => none
  | fu + 1, S, v2, v4, v5, v6 =>
    if v5 ≤ v6 then
      some S
    else
      if v6 < 0 ∨ 160 ≤ (v6).toNatClampNeg then none else
      if ((((160 : Int32) * v2) + v4) + v6) < 0 ∨ 1280 ≤ ((((160 : Int32) * v2) + v4) + v6).toNatClampNeg then none else
      fX9_copy_205 fu (gU4 S 19 ((((160 : Int32) * v2) + v4) + v6).toNatClampNeg (S.2.2.2 20 (v6).toNatClampNeg)) v2 v4 v5 (v6 + 1)
set_option maxHeartbeats 4000000 in
set_option maxRecDepth 100000 in
theorem bX9_copy_205 {p : Program} {l : Launch} {e : Env} {s : State} {m : MethodId} {args : Array Value} {below : List Frame} {meth : Method} {c : Code} {Q : State → Prop} {G : GP} (X : GX p s m meth c args cX9_copy 7 (some .int) wsX9_copy RX9) (E : gE WM G s)  : ∀ (fu : Nat) (S : GS) (v2 : Int32) (v4 : Int32) (v5 : Int32) (v6 : Int32) (R : GS) (H : Heap) (locs : List Loc) (ls : Array Slot) (_ : fX9_copy_205 fu S v2 v4 v5 v6 = some R) (_ : va_P (gD G) vwCl (WM G S ++ gF G) H) (_ : va_S (gA G) s.heap H locs) (_ : lv_has ls 7 [(0, .ref (ga G 63)), (2, .int v2), (4, .int v4), (5, .int v5), (6, .int v6)]) (_ : ∀ (H : Heap) (locs : List Loc) (ls : Array Slot), va_P (gD G) vwCl (WM G R ++ gF G) H → va_S (gA G) s.heap H locs → lv_has ls 7 [] → W p l e (gR 1 21) s m args below meth c H locs 0 0 Q (F0 m 241 ls [])), W p l e (gR 1 21) s m args below meth c H locs 0 0 Q (F0 m 205 ls []) := by
  obtain ⟨hx, hb, -, -, hown, hts, -⟩ := id X
  intro fu
  induction fu with
  | zero =>
    intro S v2 v4 v5 v6 R H locs ls hf
    cases (show (none : Option GS) = some R from hf)
  | succ fu ih =>
    intro S v2 v4 v5 v6 R H locs ls hf hP hS hl kk
    rw [fX9_copy_205] at hf
    refine lv_iload hx hb dX9_copy_205 (lv_at hl 4 rfl) ?_
    refine lv_iload hx hb dX9_copy_207 (lv_at hl 3 rfl) ?_
    refine lv_icmp_ge (tgt := 241) hx hb dX9_copy_209 (by decide) (fun c43 => ?_) (fun c43 => ?_)
    · have hf := g_ift hf c43
      obtain rfl := g_some hf
      exact kk _ _ _ hP hS (lv_sub hl [] rfl)
    · have hf := g_iff hf c43
      refine lv_aload_n hx hb dX9_copy_212 rfl (lv_at hl 0 rfl) ?_
      refine ggM_19 X E hP inX9_copy_X9 lkX9_copy_3 dX9_copy_213 ?_
      refine lv_sipush (v := 160) hx hb dX9_copy_216 (by decide) ?_
      refine lv_iload_n hx hb dX9_copy_219 rfl (lv_at hl 1 rfl) ?_
      refine lv_imul hx hb dX9_copy_220 ?_
      refine lv_iload hx hb dX9_copy_221 (lv_at hl 2 rfl) ?_
      refine lv_iadd hx hb dX9_copy_223 ?_
      refine lv_iload hx hb dX9_copy_224 (lv_at hl 4 rfl) ?_
      refine lv_iadd hx hb dX9_copy_226 ?_
      refine lv_aload_n hx hb dX9_copy_227 rfl (lv_at hl 0 rfl) ?_
      refine ggM_20 X E hP inX9_copy_X9 lkX9_copy_2 dX9_copy_228 ?_
      refine lv_iload hx hb dX9_copy_231 (lv_at hl 4 rfl) ?_
      obtain ⟨b44, hf⟩ := g_if hf
      refine giM_20 X E hP b44 dX9_copy_233 ?_
      obtain ⟨b45, hf⟩ := g_if hf
      refine gsM_19 X E hP hS b45 dX9_copy_234 (fun H locs hP hS => ?_)
      refine lv_iinc (v := (v6 + 1)) (lv' := [(6, .int (v6 + 1)), (0, .ref (ga G 63)), (2, .int v2), (4, .int v4), (5, .int v5)]) hx hb dX9_copy_235 hl (k := 4) rfl rfl (by decide) rfl (fun ls hl => ?_)
      refine lv_goto (tgt := 205) hx hb dX9_copy_238 (by decide) ?_
      exact ih _ _ _ _ _ _ _ _ _ hf hP hS (lv_sub hl [1, 2, 3, 4, 0] rfl) kk
def fX9_copy_L84 (S : GS) (v1 : Int32) (v2 : Int32) (v3 : Int32) (v4 : Int32) (v5 : Int32) : Option (Int32 × GS) :=
  if v1 < 0 ∨ 8 ≤ (v1).toNatClampNeg then none else
  if (S.2.2.1 15 (v1).toNatClampNeg) = 0 then
    (fX9_no S (-3 : Int32)).bind fun u21 =>
    some (u21.1, u21.2)
  else
    if v2 < 0 ∨ 8 ≤ (v2).toNatClampNeg then none else
    if (S.2.2.1 15 (v2).toNatClampNeg) = 0 then
      (fX9_no S (-3 : Int32)).bind fun u52 =>
      some (u52.1, u52.2)
    else
      if 0 ≤ v5 then
        if v3 < 0 then
          (fX9_no S (-5 : Int32)).bind fun u27 =>
          some (u27.1, u27.2)
        else
          if v4 < 0 then
            (fX9_no S (-5 : Int32)).bind fun u30 =>
            some (u30.1, u30.2)
          else
            if v1 < 0 ∨ 8 ≤ (v1).toNatClampNeg then none else
            if ((S.2.2.1 17 (v1).toNatClampNeg) - v5) < v3 then
              (fX9_no S (-5 : Int32)).bind fun u34 =>
              some (u34.1, u34.2)
            else
              if v2 < 0 ∨ 8 ≤ (v2).toNatClampNeg then none else
              if v4 ≤ ((S.2.2.1 17 (v2).toNatClampNeg) - v5) then
                (fX9_copy_167 gFuel S v1 v3 v5 (0 : Int32)).bind fun u41 =>
                (fX9_copy_205 gFuel u41 v2 v4 v5 (0 : Int32)).bind fun u46 =>
                some ((1 : Int32), u46)
              else
                (fX9_no S (-5 : Int32)).bind fun u48 =>
                some (u48.1, u48.2)
      else
        (fX9_no S (-4 : Int32)).bind fun u50 =>
        some (u50.1, u50.2)
set_option maxHeartbeats 4000000 in
set_option maxRecDepth 100000 in
theorem bX9_copy_L84 {p : Program} {l : Launch} {e : Env} {s : State} {m : MethodId} {args : Array Value} {below : List Frame} {meth : Method} {c : Code} {G : GP} (X : GX p s m meth c args cX9_copy 7 (some .int) wsX9_copy RX9) (E : gE WM G s) (S : GS) (v1 : Int32) (v2 : Int32) (v3 : Int32) (v4 : Int32) (v5 : Int32) (R : (Int32 × GS)) (H : Heap) (locs : List Loc) (ls : Array Slot) (hf : fX9_copy_L84 S v1 v2 v3 v4 v5 = some R) (hP : va_P (gD G) vwCl (WM G S ++ gF G) H) (hS : va_S (gA G) s.heap H locs) (hl : lv_has ls 7 [(0, .ref (ga G 63)), (1, .int v1), (2, .int v2), (3, .int v3), (4, .int v4), (5, .int v5)]) : W p l e (gR 1 21) s m args below meth c H locs 0 0 (MQ below (gQi WM G R.1 R.2) args s 0 0 (gA G)) (F0 m 84 ls []) := by
  obtain ⟨hx, hb, -, -, hown, hts, -⟩ := id X
  rw [fX9_copy_L84] at hf
  refine lv_aload_n hx hb dX9_copy_84 rfl (lv_at hl 0 rfl) ?_
  refine ggM_15 X E hP inX9_copy_X9 lkX9_copy_0 dX9_copy_85 ?_
  refine lv_iload_n hx hb dX9_copy_88 rfl (lv_at hl 1 rfl) ?_
  obtain ⟨b19, hf⟩ := g_if hf
  refine giM_15 X E hP b19 dX9_copy_89 ?_
  refine lv_if_eq (tgt := 102) hx hb dX9_copy_90 (by decide) (fun c20 => ?_) (fun c20 => ?_)
  · have hf := g_ift hf c20
    refine lv_aload_n hx hb dX9_copy_102 rfl (lv_at hl 0 rfl) ?_
    refine lv_bipush (v := -3) hx hb dX9_copy_103 (by decide) ?_
    obtain ⟨u21, h22, hf⟩ := g_bind hf
    refine g_vi (rest := []) X E hP hS (tcX9_no l G _ _ h22) (g_cwV X gX9_copy_X9_no rfl hdX9_no ⟨Nat.le_of_ble_eq_true rfl, Nat.le_of_ble_eq_true rfl⟩) (rcM_model E hP) rfl hl.1 rfl (Nat.le_of_ble_eq_true rfl) dX9_copy_105 ⟨Nat.le_refl _, Nat.le_refl _⟩ (fun H locs hP hS => ?_)
    obtain rfl := g_some hf
    exact g_ri X E hP hS dX9_copy_108
  · have hf := g_iff hf c20
    refine lv_aload_n hx hb dX9_copy_93 rfl (lv_at hl 0 rfl) ?_
    refine ggM_15 X E hP inX9_copy_X9 lkX9_copy_0 dX9_copy_94 ?_
    refine lv_iload_n hx hb dX9_copy_97 rfl (lv_at hl 2 rfl) ?_
    obtain ⟨b23, hf⟩ := g_if hf
    refine giM_15 X E hP b23 dX9_copy_98 ?_
    refine lv_if_ne (tgt := 109) hx hb dX9_copy_99 (by decide) (fun c24 => ?_) (fun c24 => ?_)
    · have hf := g_iff hf c24
      refine lv_iload hx hb dX9_copy_109 (lv_at hl 5 rfl) ?_
      refine lv_if_ge (tgt := 121) hx hb dX9_copy_111 (by decide) (fun c25 => ?_) (fun c25 => ?_)
      · have hf := g_ift hf c25
        refine lv_iload_n hx hb dX9_copy_121 rfl (lv_at hl 3 rfl) ?_
        refine lv_if_lt (tgt := 157) hx hb dX9_copy_122 (by decide) (fun c26 => ?_) (fun c26 => ?_)
        · have hf := g_ift hf c26
          refine lv_aload_n hx hb dX9_copy_157 rfl (lv_at hl 0 rfl) ?_
          refine lv_bipush (v := -5) hx hb dX9_copy_158 (by decide) ?_
          obtain ⟨u27, h28, hf⟩ := g_bind hf
          refine g_vi (rest := []) X E hP hS (tcX9_no l G _ _ h28) (g_cwV X gX9_copy_X9_no rfl hdX9_no ⟨Nat.le_of_ble_eq_true rfl, Nat.le_of_ble_eq_true rfl⟩) (rcM_model E hP) rfl hl.1 rfl (Nat.le_of_ble_eq_true rfl) dX9_copy_160 ⟨Nat.le_refl _, Nat.le_refl _⟩ (fun H locs hP hS => ?_)
          obtain rfl := g_some hf
          exact g_ri X E hP hS dX9_copy_163
        · have hf := g_iff hf c26
          refine lv_iload hx hb dX9_copy_125 (lv_at hl 4 rfl) ?_
          refine lv_if_lt (tgt := 157) hx hb dX9_copy_127 (by decide) (fun c29 => ?_) (fun c29 => ?_)
          · have hf := g_ift hf c29
            refine lv_aload_n hx hb dX9_copy_157 rfl (lv_at hl 0 rfl) ?_
            refine lv_bipush (v := -5) hx hb dX9_copy_158 (by decide) ?_
            obtain ⟨u30, h31, hf⟩ := g_bind hf
            refine g_vi (rest := []) X E hP hS (tcX9_no l G _ _ h31) (g_cwV X gX9_copy_X9_no rfl hdX9_no ⟨Nat.le_of_ble_eq_true rfl, Nat.le_of_ble_eq_true rfl⟩) (rcM_model E hP) rfl hl.1 rfl (Nat.le_of_ble_eq_true rfl) dX9_copy_160 ⟨Nat.le_refl _, Nat.le_refl _⟩ (fun H locs hP hS => ?_)
            obtain rfl := g_some hf
            exact g_ri X E hP hS dX9_copy_163
          · have hf := g_iff hf c29
            refine lv_iload_n hx hb dX9_copy_130 rfl (lv_at hl 3 rfl) ?_
            refine lv_aload_n hx hb dX9_copy_131 rfl (lv_at hl 0 rfl) ?_
            refine ggM_17 X E hP inX9_copy_X9 lkX9_copy_1 dX9_copy_132 ?_
            refine lv_iload_n hx hb dX9_copy_135 rfl (lv_at hl 1 rfl) ?_
            obtain ⟨b32, hf⟩ := g_if hf
            refine giM_17 X E hP b32 dX9_copy_136 ?_
            refine lv_iload hx hb dX9_copy_137 (lv_at hl 5 rfl) ?_
            refine lv_isub hx hb dX9_copy_139 ?_
            refine lv_icmp_gt (tgt := 157) hx hb dX9_copy_140 (by decide) (fun c33 => ?_) (fun c33 => ?_)
            · have hf := g_ift hf c33
              refine lv_aload_n hx hb dX9_copy_157 rfl (lv_at hl 0 rfl) ?_
              refine lv_bipush (v := -5) hx hb dX9_copy_158 (by decide) ?_
              obtain ⟨u34, h35, hf⟩ := g_bind hf
              refine g_vi (rest := []) X E hP hS (tcX9_no l G _ _ h35) (g_cwV X gX9_copy_X9_no rfl hdX9_no ⟨Nat.le_of_ble_eq_true rfl, Nat.le_of_ble_eq_true rfl⟩) (rcM_model E hP) rfl hl.1 rfl (Nat.le_of_ble_eq_true rfl) dX9_copy_160 ⟨Nat.le_refl _, Nat.le_refl _⟩ (fun H locs hP hS => ?_)
              obtain rfl := g_some hf
              exact g_ri X E hP hS dX9_copy_163
            · have hf := g_iff hf c33
              refine lv_iload hx hb dX9_copy_143 (lv_at hl 4 rfl) ?_
              refine lv_aload_n hx hb dX9_copy_145 rfl (lv_at hl 0 rfl) ?_
              refine ggM_17 X E hP inX9_copy_X9 lkX9_copy_1 dX9_copy_146 ?_
              refine lv_iload_n hx hb dX9_copy_149 rfl (lv_at hl 2 rfl) ?_
              obtain ⟨b36, hf⟩ := g_if hf
              refine giM_17 X E hP b36 dX9_copy_150 ?_
              refine lv_iload hx hb dX9_copy_151 (lv_at hl 5 rfl) ?_
              refine lv_isub hx hb dX9_copy_153 ?_
              refine lv_icmp_le (tgt := 164) hx hb dX9_copy_154 (by decide) (fun c37 => ?_) (fun c37 => ?_)
              · have hf := g_ift hf c37
                refine lv_iconst (v := 0) hx hb dX9_copy_164 (by decide) ?_
                refine lv_istore (lv' := [(6, .int (0 : Int32)), (0, .ref (ga G 63)), (1, .int v1), (2, .int v2), (3, .int v3), (4, .int v4), (5, .int v5)]) hx hb dX9_copy_165 hl (by decide) rfl (fun ls hl => ?_)
                obtain ⟨u41, h42, hf⟩ := g_bind hf
                refine bX9_copy_167 X E gFuel _ _ _ _ _ u41 _ _ _ h42 hP hS (lv_sub hl [1, 2, 3, 4, 5, 6, 0] rfl) (fun H locs ls hP hS hl => ?_)
                have hl : lv_has ls 7 [(0, .ref (ga G 63)), (2, .int v2), (4, .int v4), (5, .int v5)] := hl
                have hP : va_P (gD G) vwCl (WM G u41 ++ gF G) H := hP
                refine lv_iconst (v := 0) hx hb dX9_copy_202 (by decide) ?_
                refine lv_istore (lv' := [(6, .int (0 : Int32)), (0, .ref (ga G 63)), (2, .int v2), (4, .int v4), (5, .int v5)]) hx hb dX9_copy_203 hl (by decide) rfl (fun ls hl => ?_)
                obtain ⟨u46, h47, hf⟩ := g_bind hf
                refine bX9_copy_205 X E gFuel _ _ _ _ _ u46 _ _ _ h47 hP hS (lv_sub hl [1, 2, 3, 4, 0] rfl) (fun H locs ls hP hS hl => ?_)
                have hl : lv_has ls 7 [] := hl
                have hP : va_P (gD G) vwCl (WM G u46 ++ gF G) H := hP
                refine lv_iconst (v := 1) hx hb dX9_copy_241 (by decide) ?_
                obtain rfl := g_some hf
                exact g_ri X E hP hS dX9_copy_242
              · have hf := g_iff hf c37
                refine lv_aload_n hx hb dX9_copy_157 rfl (lv_at hl 0 rfl) ?_
                refine lv_bipush (v := -5) hx hb dX9_copy_158 (by decide) ?_
                obtain ⟨u48, h49, hf⟩ := g_bind hf
                refine g_vi (rest := []) X E hP hS (tcX9_no l G _ _ h49) (g_cwV X gX9_copy_X9_no rfl hdX9_no ⟨Nat.le_of_ble_eq_true rfl, Nat.le_of_ble_eq_true rfl⟩) (rcM_model E hP) rfl hl.1 rfl (Nat.le_of_ble_eq_true rfl) dX9_copy_160 ⟨Nat.le_refl _, Nat.le_refl _⟩ (fun H locs hP hS => ?_)
                obtain rfl := g_some hf
                exact g_ri X E hP hS dX9_copy_163
      · have hf := g_iff hf c25
        refine lv_aload_n hx hb dX9_copy_114 rfl (lv_at hl 0 rfl) ?_
        refine lv_bipush (v := -4) hx hb dX9_copy_115 (by decide) ?_
        obtain ⟨u50, h51, hf⟩ := g_bind hf
        refine g_vi (rest := []) X E hP hS (tcX9_no l G _ _ h51) (g_cwV X gX9_copy_X9_no rfl hdX9_no ⟨Nat.le_of_ble_eq_true rfl, Nat.le_of_ble_eq_true rfl⟩) (rcM_model E hP) rfl hl.1 rfl (Nat.le_of_ble_eq_true rfl) dX9_copy_117 ⟨Nat.le_refl _, Nat.le_refl _⟩ (fun H locs hP hS => ?_)
        obtain rfl := g_some hf
        exact g_ri X E hP hS dX9_copy_120
    · have hf := g_ift hf c24
      refine lv_aload_n hx hb dX9_copy_102 rfl (lv_at hl 0 rfl) ?_
      refine lv_bipush (v := -3) hx hb dX9_copy_103 (by decide) ?_
      obtain ⟨u52, h53, hf⟩ := g_bind hf
      refine g_vi (rest := []) X E hP hS (tcX9_no l G _ _ h53) (g_cwV X gX9_copy_X9_no rfl hdX9_no ⟨Nat.le_of_ble_eq_true rfl, Nat.le_of_ble_eq_true rfl⟩) (rcM_model E hP) rfl hl.1 rfl (Nat.le_of_ble_eq_true rfl) dX9_copy_105 ⟨Nat.le_refl _, Nat.le_refl _⟩ (fun H locs hP hS => ?_)
      obtain rfl := g_some hf
      exact g_ri X E hP hS dX9_copy_108
def fX9_copy (S : GS) (a1 : Int32) (a2 : Int32) (a3 : Int32) (a4 : Int32) (a5 : Int32) : Option (Int32 × GS) :=
  (fX9_isShelf S a1).bind fun u1 =>
  if u1 = 0 then
    (fX9_no S (-1 : Int32)).bind fun u4 =>
    some (u4.1, u4.2)
  else
    (fX9_isShelf S a2).bind fun u6 =>
    if u6 = 0 then
      (fX9_no S (-1 : Int32)).bind fun u61 =>
      some (u61.1, u61.2)
    else
      if a1 < 0 ∨ 8 ≤ (a1).toNatClampNeg then none else
      if (S.2.2.1 15 (a1).toNatClampNeg) = (2 : Int32) then
        (fX9_no S (-2 : Int32)).bind fun u11 =>
        some (u11.1, u11.2)
      else
        if a2 < 0 ∨ 8 ≤ (a2).toNatClampNeg then none else
        if (S.2.2.1 15 (a2).toNatClampNeg) = (2 : Int32) then
          (fX9_no S (-2 : Int32)).bind fun u15 =>
          some (u15.1, u15.2)
        else
          if a1 < 0 ∨ 8 ≤ (a1).toNatClampNeg then none else
          if (S.2.2.1 15 (a1).toNatClampNeg) = (1 : Int32) then
            if a2 < 0 ∨ 8 ≤ (a2).toNatClampNeg then none else
            if (S.2.2.1 15 (a2).toNatClampNeg) = (1 : Int32) then
              if a1 < 0 ∨ 8 ≤ (a1).toNatClampNeg then none else
              if a2 < 0 ∨ 8 ≤ (a2).toNatClampNeg then none else
              if (S.2.2.1 16 (a1).toNatClampNeg) = (S.2.2.1 16 (a2).toNatClampNeg) then
                fX9_copy_L84 S a1 a2 a3 a4 a5
              else
                (fX9_no S (-2 : Int32)).bind fun u59 =>
                some (u59.1, u59.2)
            else
              fX9_copy_L84 S a1 a2 a3 a4 a5
          else
            fX9_copy_L84 S a1 a2 a3 a4 a5
set_option maxHeartbeats 4000000 in
set_option maxRecDepth 100000 in
theorem tcX9_copy (l : Launch) (G : GP) (S : GS) (a1 : Int32) (a2 : Int32) (a3 : Int32) (a4 : Int32) (a5 : Int32) {R : (Int32 × GS)} (hf : fX9_copy S a1 a2 a3 a4 a5 = some R) : CI l yX9_copy wsX9_copy 1 21 [.ref (ga G 63), .int a1, .int a2, .int a3, .int a4, .int a5] WM G S R.1 R.2 := by
  refine g_met RX9 (cc := cX9_copy) (nL := 7) (ret := (some .int)) (by decide) rfl rfl (Nat.le_of_ble_eq_true rfl) ?_
  intro p e s m below meth c ls X E hP hS hl
  have hl : lv_has ls 7 [(0, .ref (ga G 63)), (1, .int a1), (2, .int a2), (3, .int a3), (4, .int a4), (5, .int a5)] := hl
  obtain ⟨hx, hb, -, -, hown, hts, -⟩ := id X
  rw [fX9_copy] at hf
  refine lv_aload_n hx hb dX9_copy_0 rfl (lv_at hl 0 rfl) ?_
  refine lv_iload_n hx hb dX9_copy_1 rfl (lv_at hl 1 rfl) ?_
  obtain ⟨u1, h2, hf⟩ := g_bind hf
  refine g_vi (rest := []) X E hP hS (tcX9_isShelf l G _ _ h2) (g_cwV X gX9_copy_X9_isShelf rfl hdX9_isShelf ⟨Nat.le_of_ble_eq_true rfl, Nat.le_of_ble_eq_true rfl⟩) (rcM_model E hP) rfl hl.1 rfl (Nat.le_of_ble_eq_true rfl) dX9_copy_2 ⟨Nat.le_refl _, Nat.le_refl _⟩ (fun H locs hP hS => ?_)
  refine lv_if_eq (tgt := 16) hx hb dX9_copy_5 (by decide) (fun c3 => ?_) (fun c3 => ?_)
  · have hf := g_ift hf c3
    refine lv_aload_n hx hb dX9_copy_16 rfl (lv_at hl 0 rfl) ?_
    refine lv_iconst (v := -1) hx hb dX9_copy_17 (by decide) ?_
    obtain ⟨u4, h5, hf⟩ := g_bind hf
    refine g_vi (rest := []) X E hP hS (tcX9_no l G _ _ h5) (g_cwV X gX9_copy_X9_no rfl hdX9_no ⟨Nat.le_of_ble_eq_true rfl, Nat.le_of_ble_eq_true rfl⟩) (rcM_model E hP) rfl hl.1 rfl (Nat.le_of_ble_eq_true rfl) dX9_copy_18 ⟨Nat.le_refl _, Nat.le_refl _⟩ (fun H locs hP hS => ?_)
    obtain rfl := g_some hf
    exact g_ri X E hP hS dX9_copy_21
  · have hf := g_iff hf c3
    refine lv_aload_n hx hb dX9_copy_8 rfl (lv_at hl 0 rfl) ?_
    refine lv_iload_n hx hb dX9_copy_9 rfl (lv_at hl 2 rfl) ?_
    obtain ⟨u6, h7, hf⟩ := g_bind hf
    refine g_vi (rest := []) X E hP hS (tcX9_isShelf l G _ _ h7) (g_cwV X gX9_copy_X9_isShelf rfl hdX9_isShelf ⟨Nat.le_of_ble_eq_true rfl, Nat.le_of_ble_eq_true rfl⟩) (rcM_model E hP) rfl hl.1 rfl (Nat.le_of_ble_eq_true rfl) dX9_copy_10 ⟨Nat.le_refl _, Nat.le_refl _⟩ (fun H locs hP hS => ?_)
    refine lv_if_ne (tgt := 22) hx hb dX9_copy_13 (by decide) (fun c8 => ?_) (fun c8 => ?_)
    · have hf := g_iff hf c8
      refine lv_aload_n hx hb dX9_copy_22 rfl (lv_at hl 0 rfl) ?_
      refine ggM_15 X E hP inX9_copy_X9 lkX9_copy_0 dX9_copy_23 ?_
      refine lv_iload_n hx hb dX9_copy_26 rfl (lv_at hl 1 rfl) ?_
      obtain ⟨b9, hf⟩ := g_if hf
      refine giM_15 X E hP b9 dX9_copy_27 ?_
      refine lv_iconst (v := 2) hx hb dX9_copy_28 (by decide) ?_
      refine lv_icmp_eq (tgt := 77) hx hb dX9_copy_29 (by decide) (fun c10 => ?_) (fun c10 => ?_)
      · have hf := g_ift hf c10
        refine lv_aload_n hx hb dX9_copy_77 rfl (lv_at hl 0 rfl) ?_
        refine lv_bipush (v := -2) hx hb dX9_copy_78 (by decide) ?_
        obtain ⟨u11, h12, hf⟩ := g_bind hf
        refine g_vi (rest := []) X E hP hS (tcX9_no l G _ _ h12) (g_cwV X gX9_copy_X9_no rfl hdX9_no ⟨Nat.le_of_ble_eq_true rfl, Nat.le_of_ble_eq_true rfl⟩) (rcM_model E hP) rfl hl.1 rfl (Nat.le_of_ble_eq_true rfl) dX9_copy_80 ⟨Nat.le_refl _, Nat.le_refl _⟩ (fun H locs hP hS => ?_)
        obtain rfl := g_some hf
        exact g_ri X E hP hS dX9_copy_83
      · have hf := g_iff hf c10
        refine lv_aload_n hx hb dX9_copy_32 rfl (lv_at hl 0 rfl) ?_
        refine ggM_15 X E hP inX9_copy_X9 lkX9_copy_0 dX9_copy_33 ?_
        refine lv_iload_n hx hb dX9_copy_36 rfl (lv_at hl 2 rfl) ?_
        obtain ⟨b13, hf⟩ := g_if hf
        refine giM_15 X E hP b13 dX9_copy_37 ?_
        refine lv_iconst (v := 2) hx hb dX9_copy_38 (by decide) ?_
        refine lv_icmp_eq (tgt := 77) hx hb dX9_copy_39 (by decide) (fun c14 => ?_) (fun c14 => ?_)
        · have hf := g_ift hf c14
          refine lv_aload_n hx hb dX9_copy_77 rfl (lv_at hl 0 rfl) ?_
          refine lv_bipush (v := -2) hx hb dX9_copy_78 (by decide) ?_
          obtain ⟨u15, h16, hf⟩ := g_bind hf
          refine g_vi (rest := []) X E hP hS (tcX9_no l G _ _ h16) (g_cwV X gX9_copy_X9_no rfl hdX9_no ⟨Nat.le_of_ble_eq_true rfl, Nat.le_of_ble_eq_true rfl⟩) (rcM_model E hP) rfl hl.1 rfl (Nat.le_of_ble_eq_true rfl) dX9_copy_80 ⟨Nat.le_refl _, Nat.le_refl _⟩ (fun H locs hP hS => ?_)
          obtain rfl := g_some hf
          exact g_ri X E hP hS dX9_copy_83
        · have hf := g_iff hf c14
          refine lv_aload_n hx hb dX9_copy_42 rfl (lv_at hl 0 rfl) ?_
          refine ggM_15 X E hP inX9_copy_X9 lkX9_copy_0 dX9_copy_43 ?_
          refine lv_iload_n hx hb dX9_copy_46 rfl (lv_at hl 1 rfl) ?_
          obtain ⟨b17, hf⟩ := g_if hf
          refine giM_15 X E hP b17 dX9_copy_47 ?_
          refine lv_iconst (v := 1) hx hb dX9_copy_48 (by decide) ?_
          refine lv_icmp_ne (tgt := 84) hx hb dX9_copy_49 (by decide) (fun c18 => ?_) (fun c18 => ?_)
          · have hf := g_iff hf c18
            exact bX9_copy_L84 X E _ _ _ _ _ _ _ _ _ _ hf hP hS (lv_sub hl [0, 1, 2, 3, 4, 5] rfl)
          · have hf := g_ift hf c18
            refine lv_aload_n hx hb dX9_copy_52 rfl (lv_at hl 0 rfl) ?_
            refine ggM_15 X E hP inX9_copy_X9 lkX9_copy_0 dX9_copy_53 ?_
            refine lv_iload_n hx hb dX9_copy_56 rfl (lv_at hl 2 rfl) ?_
            obtain ⟨b54, hf⟩ := g_if hf
            refine giM_15 X E hP b54 dX9_copy_57 ?_
            refine lv_iconst (v := 1) hx hb dX9_copy_58 (by decide) ?_
            refine lv_icmp_ne (tgt := 84) hx hb dX9_copy_59 (by decide) (fun c55 => ?_) (fun c55 => ?_)
            · have hf := g_iff hf c55
              exact bX9_copy_L84 X E _ _ _ _ _ _ _ _ _ _ hf hP hS (lv_sub hl [0, 1, 2, 3, 4, 5] rfl)
            · have hf := g_ift hf c55
              refine lv_aload_n hx hb dX9_copy_62 rfl (lv_at hl 0 rfl) ?_
              refine ggM_16 X E hP inX9_copy_X9 lkX9_copy_4 dX9_copy_63 ?_
              refine lv_iload_n hx hb dX9_copy_66 rfl (lv_at hl 1 rfl) ?_
              obtain ⟨b56, hf⟩ := g_if hf
              refine giM_16 X E hP b56 dX9_copy_67 ?_
              refine lv_aload_n hx hb dX9_copy_68 rfl (lv_at hl 0 rfl) ?_
              refine ggM_16 X E hP inX9_copy_X9 lkX9_copy_4 dX9_copy_69 ?_
              refine lv_iload_n hx hb dX9_copy_72 rfl (lv_at hl 2 rfl) ?_
              obtain ⟨b57, hf⟩ := g_if hf
              refine giM_16 X E hP b57 dX9_copy_73 ?_
              refine lv_icmp_eq (tgt := 84) hx hb dX9_copy_74 (by decide) (fun c58 => ?_) (fun c58 => ?_)
              · have hf := g_ift hf c58
                exact bX9_copy_L84 X E _ _ _ _ _ _ _ _ _ _ hf hP hS (lv_sub hl [0, 1, 2, 3, 4, 5] rfl)
              · have hf := g_iff hf c58
                refine lv_aload_n hx hb dX9_copy_77 rfl (lv_at hl 0 rfl) ?_
                refine lv_bipush (v := -2) hx hb dX9_copy_78 (by decide) ?_
                obtain ⟨u59, h60, hf⟩ := g_bind hf
                refine g_vi (rest := []) X E hP hS (tcX9_no l G _ _ h60) (g_cwV X gX9_copy_X9_no rfl hdX9_no ⟨Nat.le_of_ble_eq_true rfl, Nat.le_of_ble_eq_true rfl⟩) (rcM_model E hP) rfl hl.1 rfl (Nat.le_of_ble_eq_true rfl) dX9_copy_80 ⟨Nat.le_refl _, Nat.le_refl _⟩ (fun H locs hP hS => ?_)
                obtain rfl := g_some hf
                exact g_ri X E hP hS dX9_copy_83
    · have hf := g_ift hf c8
      refine lv_aload_n hx hb dX9_copy_16 rfl (lv_at hl 0 rfl) ?_
      refine lv_iconst (v := -1) hx hb dX9_copy_17 (by decide) ?_
      obtain ⟨u61, h62, hf⟩ := g_bind hf
      refine g_vi (rest := []) X E hP hS (tcX9_no l G _ _ h62) (g_cwV X gX9_copy_X9_no rfl hdX9_no ⟨Nat.le_of_ble_eq_true rfl, Nat.le_of_ble_eq_true rfl⟩) (rcM_model E hP) rfl hl.1 rfl (Nat.le_of_ble_eq_true rfl) dX9_copy_18 ⟨Nat.le_refl _, Nat.le_refl _⟩ (fun H locs hP hS => ?_)
      obtain rfl := g_some hf
      exact g_ri X E hP hS dX9_copy_21
theorem lkX9_element_0 : Cond.fieldLink RX9 50 RX9 "held" "[I" ∈ wsX9_element := by decide +kernel
theorem lkX9_element_1 : Cond.fieldLink RX9 56 RX9 "size" "[I" ∈ wsX9_element := by decide +kernel
theorem lkX9_element_2 : Cond.fieldLink RX9 62 RX9 "cells" "[J" ∈ wsX9_element := by decide +kernel
theorem inX9_element_X9 : ∀ w ∈ wsX90, w ∈ wsX9_element := by decide +kernel
def fX9_element (S : GS) (a1 : Int32) (a2 : Int32) : Option Int64 :=
  (fX9_isShelf S a1).bind fun u1 =>
  if u1 = 0 then
    some (0 : Int64)
  else
    if a1 < 0 ∨ 8 ≤ (a1).toNatClampNeg then none else
    if (S.2.2.1 15 (a1).toNatClampNeg) = (1 : Int32) then
      if a2 < 0 then
        some (0 : Int64)
      else
        if a1 < 0 ∨ 8 ≤ (a1).toNatClampNeg then none else
        if (S.2.2.1 17 (a1).toNatClampNeg) ≤ a2 then
          some (0 : Int64)
        else
          if (((160 : Int32) * a1) + a2) < 0 ∨ 1280 ≤ (((160 : Int32) * a1) + a2).toNatClampNeg then none else
          some (S.2.2.2 19 (((160 : Int32) * a1) + a2).toNatClampNeg)
    else
      some (0 : Int64)
set_option maxHeartbeats 4000000 in
set_option maxRecDepth 100000 in
theorem tcX9_element (l : Launch) (G : GP) (S : GS) (a1 : Int32) (a2 : Int32) {R : Int64} (hf : fX9_element S a1 a2 = some R) : CL l yX9_element wsX9_element 1 21 [.ref (ga G 63), .int a1, .int a2] WM G S R S := by
  refine g_met RX9 (cc := cX9_element) (nL := 3) (ret := (some .long)) (by decide) rfl rfl (Nat.le_of_ble_eq_true rfl) ?_
  intro p e s m below meth c ls X E hP hS hl
  have hl : lv_has ls 3 [(0, .ref (ga G 63)), (1, .int a1), (2, .int a2)] := hl
  obtain ⟨hx, hb, -, -, hown, hts, -⟩ := id X
  rw [fX9_element] at hf
  refine lv_aload_n hx hb dX9_element_0 rfl (lv_at hl 0 rfl) ?_
  refine lv_iload_n hx hb dX9_element_1 rfl (lv_at hl 1 rfl) ?_
  obtain ⟨u1, h2, hf⟩ := g_bind hf
  refine g_vi (rest := []) X E hP hS (tcX9_isShelf l G _ _ h2) (g_cwV X gX9_element_X9_isShelf rfl hdX9_isShelf ⟨Nat.le_of_ble_eq_true rfl, Nat.le_of_ble_eq_true rfl⟩) (rcM_model E hP) rfl hl.1 rfl (Nat.le_of_ble_eq_true rfl) dX9_element_2 ⟨Nat.le_refl _, Nat.le_refl _⟩ (fun H locs hP hS => ?_)
  refine lv_if_eq (tgt := 47) hx hb dX9_element_5 (by decide) (fun c3 => ?_) (fun c3 => ?_)
  · have hf := g_ift hf c3
    refine lv_lconst (v := 0) hx hb dX9_element_47 (by decide) ?_
    obtain rfl := g_some hf
    exact g_rl X E hP hS dX9_element_48
  · have hf := g_iff hf c3
    refine lv_aload_n hx hb dX9_element_8 rfl (lv_at hl 0 rfl) ?_
    refine ggM_15 X E hP inX9_element_X9 lkX9_element_0 dX9_element_9 ?_
    refine lv_iload_n hx hb dX9_element_12 rfl (lv_at hl 1 rfl) ?_
    obtain ⟨b4, hf⟩ := g_if hf
    refine giM_15 X E hP b4 dX9_element_13 ?_
    refine lv_iconst (v := 1) hx hb dX9_element_14 (by decide) ?_
    refine lv_icmp_ne (tgt := 47) hx hb dX9_element_15 (by decide) (fun c5 => ?_) (fun c5 => ?_)
    · have hf := g_iff hf c5
      refine lv_lconst (v := 0) hx hb dX9_element_47 (by decide) ?_
      obtain rfl := g_some hf
      exact g_rl X E hP hS dX9_element_48
    · have hf := g_ift hf c5
      refine lv_iload_n hx hb dX9_element_18 rfl (lv_at hl 2 rfl) ?_
      refine lv_if_lt (tgt := 47) hx hb dX9_element_19 (by decide) (fun c6 => ?_) (fun c6 => ?_)
      · have hf := g_ift hf c6
        refine lv_lconst (v := 0) hx hb dX9_element_47 (by decide) ?_
        obtain rfl := g_some hf
        exact g_rl X E hP hS dX9_element_48
      · have hf := g_iff hf c6
        refine lv_iload_n hx hb dX9_element_22 rfl (lv_at hl 2 rfl) ?_
        refine lv_aload_n hx hb dX9_element_23 rfl (lv_at hl 0 rfl) ?_
        refine ggM_17 X E hP inX9_element_X9 lkX9_element_1 dX9_element_24 ?_
        refine lv_iload_n hx hb dX9_element_27 rfl (lv_at hl 1 rfl) ?_
        obtain ⟨b7, hf⟩ := g_if hf
        refine giM_17 X E hP b7 dX9_element_28 ?_
        refine lv_icmp_ge (tgt := 47) hx hb dX9_element_29 (by decide) (fun c8 => ?_) (fun c8 => ?_)
        · have hf := g_ift hf c8
          refine lv_lconst (v := 0) hx hb dX9_element_47 (by decide) ?_
          obtain rfl := g_some hf
          exact g_rl X E hP hS dX9_element_48
        · have hf := g_iff hf c8
          refine lv_aload_n hx hb dX9_element_32 rfl (lv_at hl 0 rfl) ?_
          refine ggM_19 X E hP inX9_element_X9 lkX9_element_2 dX9_element_33 ?_
          refine lv_sipush (v := 160) hx hb dX9_element_36 (by decide) ?_
          refine lv_iload_n hx hb dX9_element_39 rfl (lv_at hl 1 rfl) ?_
          refine lv_imul hx hb dX9_element_40 ?_
          refine lv_iload_n hx hb dX9_element_41 rfl (lv_at hl 2 rfl) ?_
          refine lv_iadd hx hb dX9_element_42 ?_
          obtain ⟨b9, hf⟩ := g_if hf
          refine giM_19 X E hP b9 dX9_element_43 ?_
          refine lv_goto (tgt := 48) hx hb dX9_element_44 (by decide) ?_
          obtain rfl := g_some hf
          exact g_rl X E hP hS dX9_element_48
theorem lkX9_isSetup_0 : Cond.fieldLink RX9 91 RX9 "many" "I" ∈ wsX9_isSetup := by decide +kernel
theorem inX9_isSetup_X9 : ∀ w ∈ wsX90, w ∈ wsX9_isSetup := by decide +kernel
def fX9_isSetup (S : GS) (a1 : Int32) : Option Int32 :=
  if a1 < 0 then
    some (0 : Int32)
  else
    if (S.1 0) ≤ a1 then
      some (0 : Int32)
    else
      some (1 : Int32)
set_option maxHeartbeats 4000000 in
set_option maxRecDepth 100000 in
theorem tcX9_isSetup (l : Launch) (G : GP) (S : GS) (a1 : Int32) {R : Int32} (hf : fX9_isSetup S a1 = some R) : CI l yX9_isSetup wsX9_isSetup 0 0 [.ref (ga G 63), .int a1] WM G S R S := by
  refine g_met RX9 (cc := cX9_isSetup) (nL := 2) (ret := (some .boolean)) (by decide) rfl rfl (Nat.le_of_ble_eq_true rfl) ?_
  intro p e s m below meth c ls X E hP hS hl
  have hl : lv_has ls 2 [(0, .ref (ga G 63)), (1, .int a1)] := hl
  obtain ⟨hx, hb, -, -, hown, hts, -⟩ := id X
  rw [fX9_isSetup] at hf
  refine lv_iload_n hx hb dX9_isSetup_0 rfl (lv_at hl 1 rfl) ?_
  refine lv_if_lt (tgt := 16) hx hb dX9_isSetup_1 (by decide) (fun c1 => ?_) (fun c1 => ?_)
  · have hf := g_ift hf c1
    refine lv_iconst (v := 0) hx hb dX9_isSetup_16 (by decide) ?_
    obtain rfl := g_some hf
    exact g_rz (v := (0 : Int32)) X E hP hS rfl dX9_isSetup_17
  · have hf := g_iff hf c1
    refine lv_iload_n hx hb dX9_isSetup_4 rfl (lv_at hl 1 rfl) ?_
    refine lv_aload_n hx hb dX9_isSetup_5 rfl (lv_at hl 0 rfl) ?_
    refine ggM_0 X E hP inX9_isSetup_X9 lkX9_isSetup_0 dX9_isSetup_6 ?_
    refine lv_icmp_ge (tgt := 16) hx hb dX9_isSetup_9 (by decide) (fun c2 => ?_) (fun c2 => ?_)
    · have hf := g_ift hf c2
      refine lv_iconst (v := 0) hx hb dX9_isSetup_16 (by decide) ?_
      obtain rfl := g_some hf
      exact g_rz (v := (0 : Int32)) X E hP hS rfl dX9_isSetup_17
    · have hf := g_iff hf c2
      refine lv_iconst (v := 1) hx hb dX9_isSetup_12 (by decide) ?_
      refine lv_goto (tgt := 17) hx hb dX9_isSetup_13 (by decide) ?_
      obtain rfl := g_some hf
      exact g_rz (v := (1 : Int32)) X E hP hS rfl dX9_isSetup_17
theorem lkX9_show_0 : Cond.fieldLink RX9 50 RX9 "held" "[I" ∈ wsX9_show := by decide +kernel
theorem lkX9_show_1 : Cond.fieldLink RX9 59 RX9 "shown" "[I" ∈ wsX9_show := by decide +kernel
theorem inX9_show_X9 : ∀ w ∈ wsX90, w ∈ wsX9_show := by decide +kernel
def fX9_show_L27 (S : GS) (v1 : Int32) (v2 : Int32) : Option (Int32 × GS) :=
  if v2 = (-1 : Int32) then
    if v1 < 0 ∨ 8 ≤ (v1).toNatClampNeg then none else
    if v1 < 0 ∨ 8 ≤ (v1).toNatClampNeg then none else
    if v2 = (-1 : Int32) then
      some ((0 : Int32), (gU3 (gU3 S 15 (v1).toNatClampNeg (0 : Int32)) 18 (v1).toNatClampNeg v2))
    else
      some ((1 : Int32), (gU3 (gU3 S 15 (v1).toNatClampNeg (0 : Int32)) 18 (v1).toNatClampNeg v2))
  else
    if v1 < 0 ∨ 8 ≤ (v1).toNatClampNeg then none else
    if v1 < 0 ∨ 8 ≤ (v1).toNatClampNeg then none else
    if v2 = (-1 : Int32) then
      some ((0 : Int32), (gU3 (gU3 S 15 (v1).toNatClampNeg (2 : Int32)) 18 (v1).toNatClampNeg v2))
    else
      some ((1 : Int32), (gU3 (gU3 S 15 (v1).toNatClampNeg (2 : Int32)) 18 (v1).toNatClampNeg v2))
set_option maxHeartbeats 4000000 in
set_option maxRecDepth 100000 in
theorem bX9_show_L27 {p : Program} {l : Launch} {e : Env} {s : State} {m : MethodId} {args : Array Value} {below : List Frame} {meth : Method} {c : Code} {G : GP} (X : GX p s m meth c args cX9_show 3 (some .int) wsX9_show RX9) (E : gE WM G s) (S : GS) (v1 : Int32) (v2 : Int32) (R : (Int32 × GS)) (H : Heap) (locs : List Loc) (ls : Array Slot) (hf : fX9_show_L27 S v1 v2 = some R) (hP : va_P (gD G) vwCl (WM G S ++ gF G) H) (hS : va_S (gA G) s.heap H locs) (hl : lv_has ls 3 [(0, .ref (ga G 63)), (1, .int v1), (2, .int v2)]) : W p l e (gR 1 21) s m args below meth c H locs 0 0 (MQ below (gQi WM G R.1 R.2) args s 0 0 (gA G)) (F0 m 27 ls []) := by
  obtain ⟨hx, hb, -, -, hown, hts, -⟩ := id X
  rw [fX9_show_L27] at hf
  refine lv_aload_n hx hb dX9_show_27 rfl (lv_at hl 0 rfl) ?_
  refine ggM_15 X E hP inX9_show_X9 lkX9_show_0 dX9_show_28 ?_
  refine lv_iload_n hx hb dX9_show_31 rfl (lv_at hl 1 rfl) ?_
  refine lv_iload_n hx hb dX9_show_32 rfl (lv_at hl 2 rfl) ?_
  refine lv_iconst (v := -1) hx hb dX9_show_33 (by decide) ?_
  refine lv_icmp_ne (tgt := 41) hx hb dX9_show_34 (by decide) (fun c7 => ?_) (fun c7 => ?_)
  · have hf := g_iff hf c7
    refine lv_iconst (v := 2) hx hb dX9_show_41 (by decide) ?_
    obtain ⟨b8, hf⟩ := g_if hf
    refine gsM_15 X E hP hS b8 dX9_show_42 (fun H locs hP hS => ?_)
    refine lv_aload_n hx hb dX9_show_43 rfl (lv_at hl 0 rfl) ?_
    refine ggM_18 X E hP inX9_show_X9 lkX9_show_1 dX9_show_44 ?_
    refine lv_iload_n hx hb dX9_show_47 rfl (lv_at hl 1 rfl) ?_
    refine lv_iload_n hx hb dX9_show_48 rfl (lv_at hl 2 rfl) ?_
    obtain ⟨b9, hf⟩ := g_if hf
    refine gsM_18 X E hP hS b9 dX9_show_49 (fun H locs hP hS => ?_)
    refine lv_iload_n hx hb dX9_show_50 rfl (lv_at hl 2 rfl) ?_
    refine lv_iconst (v := -1) hx hb dX9_show_51 (by decide) ?_
    refine lv_icmp_ne (tgt := 59) hx hb dX9_show_52 (by decide) (fun c10 => ?_) (fun c10 => ?_)
    · have hf := g_iff hf c10
      refine lv_iconst (v := 1) hx hb dX9_show_59 (by decide) ?_
      obtain rfl := g_some hf
      exact g_ri X E hP hS dX9_show_60
    · have hf := g_ift hf c10
      refine lv_iconst (v := 0) hx hb dX9_show_55 (by decide) ?_
      refine lv_goto (tgt := 60) hx hb dX9_show_56 (by decide) ?_
      obtain rfl := g_some hf
      exact g_ri X E hP hS dX9_show_60
  · have hf := g_ift hf c7
    refine lv_iconst (v := 0) hx hb dX9_show_37 (by decide) ?_
    refine lv_goto (tgt := 42) hx hb dX9_show_38 (by decide) ?_
    obtain ⟨b11, hf⟩ := g_if hf
    refine gsM_15 X E hP hS b11 dX9_show_42 (fun H locs hP hS => ?_)
    refine lv_aload_n hx hb dX9_show_43 rfl (lv_at hl 0 rfl) ?_
    refine ggM_18 X E hP inX9_show_X9 lkX9_show_1 dX9_show_44 ?_
    refine lv_iload_n hx hb dX9_show_47 rfl (lv_at hl 1 rfl) ?_
    refine lv_iload_n hx hb dX9_show_48 rfl (lv_at hl 2 rfl) ?_
    obtain ⟨b12, hf⟩ := g_if hf
    refine gsM_18 X E hP hS b12 dX9_show_49 (fun H locs hP hS => ?_)
    refine lv_iload_n hx hb dX9_show_50 rfl (lv_at hl 2 rfl) ?_
    refine lv_iconst (v := -1) hx hb dX9_show_51 (by decide) ?_
    refine lv_icmp_ne (tgt := 59) hx hb dX9_show_52 (by decide) (fun c13 => ?_) (fun c13 => ?_)
    · have hf := g_iff hf c13
      refine lv_iconst (v := 1) hx hb dX9_show_59 (by decide) ?_
      obtain rfl := g_some hf
      exact g_ri X E hP hS dX9_show_60
    · have hf := g_ift hf c13
      refine lv_iconst (v := 0) hx hb dX9_show_55 (by decide) ?_
      refine lv_goto (tgt := 60) hx hb dX9_show_56 (by decide) ?_
      obtain rfl := g_some hf
      exact g_ri X E hP hS dX9_show_60
def fX9_show (S : GS) (a1 : Int32) (a2 : Int32) : Option (Int32 × GS) :=
  (fX9_isShelf S a1).bind fun u1 =>
  if u1 = 0 then
    (fX9_no S (-1 : Int32)).bind fun u4 =>
    some (u4.1, u4.2)
  else
    if a2 = (-1 : Int32) then
      fX9_show_L27 S a1 a2
    else
      (fX9_isSetup S a2).bind fun u14 =>
      if u14 = 0 then
        (fX9_no S (-1 : Int32)).bind fun u17 =>
        some (u17.1, u17.2)
      else
        fX9_show_L27 S a1 a2
set_option maxHeartbeats 4000000 in
set_option maxRecDepth 100000 in
theorem tcX9_show (l : Launch) (G : GP) (S : GS) (a1 : Int32) (a2 : Int32) {R : (Int32 × GS)} (hf : fX9_show S a1 a2 = some R) : CI l yX9_show wsX9_show 1 21 [.ref (ga G 63), .int a1, .int a2] WM G S R.1 R.2 := by
  refine g_met RX9 (cc := cX9_show) (nL := 3) (ret := (some .int)) (by decide) rfl rfl (Nat.le_of_ble_eq_true rfl) ?_
  intro p e s m below meth c ls X E hP hS hl
  have hl : lv_has ls 3 [(0, .ref (ga G 63)), (1, .int a1), (2, .int a2)] := hl
  obtain ⟨hx, hb, -, -, hown, hts, -⟩ := id X
  rw [fX9_show] at hf
  refine lv_aload_n hx hb dX9_show_0 rfl (lv_at hl 0 rfl) ?_
  refine lv_iload_n hx hb dX9_show_1 rfl (lv_at hl 1 rfl) ?_
  obtain ⟨u1, h2, hf⟩ := g_bind hf
  refine g_vi (rest := []) X E hP hS (tcX9_isShelf l G _ _ h2) (g_cwV X gX9_show_X9_isShelf rfl hdX9_isShelf ⟨Nat.le_of_ble_eq_true rfl, Nat.le_of_ble_eq_true rfl⟩) (rcM_model E hP) rfl hl.1 rfl (Nat.le_of_ble_eq_true rfl) dX9_show_2 ⟨Nat.le_refl _, Nat.le_refl _⟩ (fun H locs hP hS => ?_)
  refine lv_if_eq (tgt := 21) hx hb dX9_show_5 (by decide) (fun c3 => ?_) (fun c3 => ?_)
  · have hf := g_ift hf c3
    refine lv_aload_n hx hb dX9_show_21 rfl (lv_at hl 0 rfl) ?_
    refine lv_iconst (v := -1) hx hb dX9_show_22 (by decide) ?_
    obtain ⟨u4, h5, hf⟩ := g_bind hf
    refine g_vi (rest := []) X E hP hS (tcX9_no l G _ _ h5) (g_cwV X gX9_show_X9_no rfl hdX9_no ⟨Nat.le_of_ble_eq_true rfl, Nat.le_of_ble_eq_true rfl⟩) (rcM_model E hP) rfl hl.1 rfl (Nat.le_of_ble_eq_true rfl) dX9_show_23 ⟨Nat.le_refl _, Nat.le_refl _⟩ (fun H locs hP hS => ?_)
    obtain rfl := g_some hf
    exact g_ri X E hP hS dX9_show_26
  · have hf := g_iff hf c3
    refine lv_iload_n hx hb dX9_show_8 rfl (lv_at hl 2 rfl) ?_
    refine lv_iconst (v := -1) hx hb dX9_show_9 (by decide) ?_
    refine lv_icmp_eq (tgt := 27) hx hb dX9_show_10 (by decide) (fun c6 => ?_) (fun c6 => ?_)
    · have hf := g_ift hf c6
      exact bX9_show_L27 X E _ _ _ _ _ _ _ hf hP hS (lv_sub hl [0, 1, 2] rfl)
    · have hf := g_iff hf c6
      refine lv_aload_n hx hb dX9_show_13 rfl (lv_at hl 0 rfl) ?_
      refine lv_iload_n hx hb dX9_show_14 rfl (lv_at hl 2 rfl) ?_
      obtain ⟨u14, h15, hf⟩ := g_bind hf
      refine g_vi (rest := []) X E hP hS (tcX9_isSetup l G _ _ h15) (g_cwV X gX9_show_X9_isSetup rfl hdX9_isSetup ⟨Nat.le_of_ble_eq_true rfl, Nat.le_of_ble_eq_true rfl⟩) (rcM_model E hP) rfl hl.1 rfl (Nat.le_of_ble_eq_true rfl) dX9_show_15 ⟨Nat.le_refl _, Nat.le_refl _⟩ (fun H locs hP hS => ?_)
      refine lv_if_ne (tgt := 27) hx hb dX9_show_18 (by decide) (fun c16 => ?_) (fun c16 => ?_)
      · have hf := g_iff hf c16
        exact bX9_show_L27 X E _ _ _ _ _ _ _ hf hP hS (lv_sub hl [0, 1, 2] rfl)
      · have hf := g_ift hf c16
        refine lv_aload_n hx hb dX9_show_21 rfl (lv_at hl 0 rfl) ?_
        refine lv_iconst (v := -1) hx hb dX9_show_22 (by decide) ?_
        obtain ⟨u17, h18, hf⟩ := g_bind hf
        refine g_vi (rest := []) X E hP hS (tcX9_no l G _ _ h18) (g_cwV X gX9_show_X9_no rfl hdX9_no ⟨Nat.le_of_ble_eq_true rfl, Nat.le_of_ble_eq_true rfl⟩) (rcM_model E hP) rfl hl.1 rfl (Nat.le_of_ble_eq_true rfl) dX9_show_23 ⟨Nat.le_refl _, Nat.le_refl _⟩ (fun H locs hP hS => ?_)
        obtain rfl := g_some hf
        exact g_ri X E hP hS dX9_show_26
theorem lkX9_holds_0 : Cond.fieldLink RX9 50 RX9 "held" "[I" ∈ wsX9_holds := by decide +kernel
theorem lkX9_holds_1 : Cond.fieldLink RX9 59 RX9 "shown" "[I" ∈ wsX9_holds := by decide +kernel
theorem lkX9_holds_2 : Cond.fieldLink RX9 53 RX9 "sort" "[I" ∈ wsX9_holds := by decide +kernel
theorem inX9_holds_X9 : ∀ w ∈ wsX90, w ∈ wsX9_holds := by decide +kernel
def fX9_holds (S : GS) (a1 : Int32) : Option Int32 :=
  (fX9_isShelf S a1).bind fun u1 =>
  if u1 = 0 then
    some (-1 : Int32)
  else
    if a1 < 0 ∨ 8 ≤ (a1).toNatClampNeg then none else
    if (S.2.2.1 15 (a1).toNatClampNeg) = 0 then
      some (-1 : Int32)
    else
      if a1 < 0 ∨ 8 ≤ (a1).toNatClampNeg then none else
      if (S.2.2.1 15 (a1).toNatClampNeg) = (1 : Int32) then
        if a1 < 0 ∨ 8 ≤ (a1).toNatClampNeg then none else
        some ((100 : Int32) + (S.2.2.1 16 (a1).toNatClampNeg))
      else
        if a1 < 0 ∨ 8 ≤ (a1).toNatClampNeg then none else
        some (S.2.2.1 18 (a1).toNatClampNeg)
set_option maxHeartbeats 4000000 in
set_option maxRecDepth 100000 in
theorem tcX9_holds (l : Launch) (G : GP) (S : GS) (a1 : Int32) {R : Int32} (hf : fX9_holds S a1 = some R) : CI l yX9_holds wsX9_holds 1 21 [.ref (ga G 63), .int a1] WM G S R S := by
  refine g_met RX9 (cc := cX9_holds) (nL := 2) (ret := (some .int)) (by decide) rfl rfl (Nat.le_of_ble_eq_true rfl) ?_
  intro p e s m below meth c ls X E hP hS hl
  have hl : lv_has ls 2 [(0, .ref (ga G 63)), (1, .int a1)] := hl
  obtain ⟨hx, hb, -, -, hown, hts, -⟩ := id X
  rw [fX9_holds] at hf
  refine lv_aload_n hx hb dX9_holds_0 rfl (lv_at hl 0 rfl) ?_
  refine lv_iload_n hx hb dX9_holds_1 rfl (lv_at hl 1 rfl) ?_
  obtain ⟨u1, h2, hf⟩ := g_bind hf
  refine g_vi (rest := []) X E hP hS (tcX9_isShelf l G _ _ h2) (g_cwV X gX9_holds_X9_isShelf rfl hdX9_isShelf ⟨Nat.le_of_ble_eq_true rfl, Nat.le_of_ble_eq_true rfl⟩) (rcM_model E hP) rfl hl.1 rfl (Nat.le_of_ble_eq_true rfl) dX9_holds_2 ⟨Nat.le_refl _, Nat.le_refl _⟩ (fun H locs hP hS => ?_)
  refine lv_if_eq (tgt := 17) hx hb dX9_holds_5 (by decide) (fun c3 => ?_) (fun c3 => ?_)
  · have hf := g_ift hf c3
    refine lv_iconst (v := -1) hx hb dX9_holds_17 (by decide) ?_
    obtain rfl := g_some hf
    exact g_ri X E hP hS dX9_holds_18
  · have hf := g_iff hf c3
    refine lv_aload_n hx hb dX9_holds_8 rfl (lv_at hl 0 rfl) ?_
    refine ggM_15 X E hP inX9_holds_X9 lkX9_holds_0 dX9_holds_9 ?_
    refine lv_iload_n hx hb dX9_holds_12 rfl (lv_at hl 1 rfl) ?_
    obtain ⟨b4, hf⟩ := g_if hf
    refine giM_15 X E hP b4 dX9_holds_13 ?_
    refine lv_if_ne (tgt := 19) hx hb dX9_holds_14 (by decide) (fun c5 => ?_) (fun c5 => ?_)
    · have hf := g_iff hf c5
      refine lv_aload_n hx hb dX9_holds_19 rfl (lv_at hl 0 rfl) ?_
      refine ggM_15 X E hP inX9_holds_X9 lkX9_holds_0 dX9_holds_20 ?_
      refine lv_iload_n hx hb dX9_holds_23 rfl (lv_at hl 1 rfl) ?_
      obtain ⟨b6, hf⟩ := g_if hf
      refine giM_15 X E hP b6 dX9_holds_24 ?_
      refine lv_iconst (v := 1) hx hb dX9_holds_25 (by decide) ?_
      refine lv_icmp_ne (tgt := 41) hx hb dX9_holds_26 (by decide) (fun c7 => ?_) (fun c7 => ?_)
      · have hf := g_iff hf c7
        refine lv_aload_n hx hb dX9_holds_41 rfl (lv_at hl 0 rfl) ?_
        refine ggM_18 X E hP inX9_holds_X9 lkX9_holds_1 dX9_holds_42 ?_
        refine lv_iload_n hx hb dX9_holds_45 rfl (lv_at hl 1 rfl) ?_
        obtain ⟨b8, hf⟩ := g_if hf
        refine giM_18 X E hP b8 dX9_holds_46 ?_
        obtain rfl := g_some hf
        exact g_ri X E hP hS dX9_holds_47
      · have hf := g_ift hf c7
        refine lv_bipush (v := 100) hx hb dX9_holds_29 (by decide) ?_
        refine lv_aload_n hx hb dX9_holds_31 rfl (lv_at hl 0 rfl) ?_
        refine ggM_16 X E hP inX9_holds_X9 lkX9_holds_2 dX9_holds_32 ?_
        refine lv_iload_n hx hb dX9_holds_35 rfl (lv_at hl 1 rfl) ?_
        obtain ⟨b9, hf⟩ := g_if hf
        refine giM_16 X E hP b9 dX9_holds_36 ?_
        refine lv_iadd hx hb dX9_holds_37 ?_
        refine lv_goto (tgt := 47) hx hb dX9_holds_38 (by decide) ?_
        obtain rfl := g_some hf
        exact g_ri X E hP hS dX9_holds_47
    · have hf := g_ift hf c5
      refine lv_iconst (v := -1) hx hb dX9_holds_17 (by decide) ?_
      obtain rfl := g_some hf
      exact g_ri X E hP hS dX9_holds_18
theorem lkX9_noFar_0 : Cond.fieldLink RX9 22 RX9 "refused" "[I" ∈ wsX9_noFar := by decide +kernel
theorem lkX9_noFar_1 : Cond.constant RX9 90 (1000000 : Int32) ∈ wsX9_noFar := by decide +kernel
theorem inX9_noFar_X9 : ∀ w ∈ wsX90, w ∈ wsX9_noFar := by decide +kernel
def fX9_noFar (S : GS) (a1 : Int32) : Option (Int32 × GS) :=
  if (-a1) < 0 ∨ 8 ≤ (-a1).toNatClampNeg then none else
  if (-a1) < 0 ∨ 8 ≤ (-a1).toNatClampNeg then none else
  some ((a1 - (1000000 : Int32)), (gU3 S 6 (-a1).toNatClampNeg ((S.2.2.1 6 (-a1).toNatClampNeg) + (1 : Int32))))
set_option maxHeartbeats 4000000 in
set_option maxRecDepth 100000 in
theorem tcX9_noFar (l : Launch) (G : GP) (S : GS) (a1 : Int32) {R : (Int32 × GS)} (hf : fX9_noFar S a1 = some R) : CI l yX9_noFar wsX9_noFar 0 0 [.ref (ga G 63), .int a1] WM G S R.1 R.2 := by
  refine g_met RX9 (cc := cX9_noFar) (nL := 2) (ret := (some .int)) (by decide) rfl rfl (Nat.le_of_ble_eq_true rfl) ?_
  intro p e s m below meth c ls X E hP hS hl
  have hl : lv_has ls 2 [(0, .ref (ga G 63)), (1, .int a1)] := hl
  obtain ⟨hx, hb, -, -, hown, hts, -⟩ := id X
  rw [fX9_noFar] at hf
  refine lv_aload_n hx hb dX9_noFar_0 rfl (lv_at hl 0 rfl) ?_
  refine ggM_6 X E hP inX9_noFar_X9 lkX9_noFar_0 dX9_noFar_1 ?_
  refine lv_iload_n hx hb dX9_noFar_4 rfl (lv_at hl 1 rfl) ?_
  refine lv_ineg hx hb dX9_noFar_5 ?_
  refine lv_dup2_11 hx hb dX9_noFar_6 rfl rfl ?_
  obtain ⟨b1, hf⟩ := g_if hf
  refine giM_6 X E hP b1 dX9_noFar_7 ?_
  refine lv_iconst (v := 1) hx hb dX9_noFar_8 (by decide) ?_
  refine lv_iadd hx hb dX9_noFar_9 ?_
  obtain ⟨b2, hf⟩ := g_if hf
  refine gsM_6 X E hP hS b2 dX9_noFar_10 (fun H locs hP hS => ?_)
  refine lv_iload_n hx hb dX9_noFar_11 rfl (lv_at hl 1 rfl) ?_
  refine lv_ldc hx hb hown (hts _ lkX9_noFar_1) dX9_noFar_12 ?_
  refine lv_isub hx hb dX9_noFar_14 ?_
  obtain rfl := g_some hf
  exact g_ri X E hP hS dX9_noFar_15
theorem lkX9_sinks_0 : Cond.fieldLink RX9 26 RX9 "kind" "[I" ∈ wsX9_sinks := by decide +kernel
theorem lkX9_sinks_1 : Cond.fieldLink RX9 29 RX9 "part" "[I" ∈ wsX9_sinks := by decide +kernel
theorem inX9_sinks_X9 : ∀ w ∈ wsX90, w ∈ wsX9_sinks := by decide +kernel
def fX9_sinks (S : GS) (a1 : Int32) : Option Int32 :=
  if a1 < 0 ∨ 16 ≤ (a1).toNatClampNeg then none else
  if (S.2.2.1 7 (a1).toNatClampNeg) = (5 : Int32) then
    if a1 < 0 ∨ 16 ≤ (a1).toNatClampNeg then none else
    some ((2 : Int32) * (S.2.2.1 8 (a1).toNatClampNeg))
  else
    if a1 < 0 ∨ 16 ≤ (a1).toNatClampNeg then none else
    some (S.2.2.1 8 (a1).toNatClampNeg)
set_option maxHeartbeats 4000000 in
set_option maxRecDepth 100000 in
theorem tcX9_sinks (l : Launch) (G : GP) (S : GS) (a1 : Int32) {R : Int32} (hf : fX9_sinks S a1 = some R) : CI l yX9_sinks wsX9_sinks 0 0 [.ref (ga G 63), .int a1] WM G S R S := by
  refine g_met RX9 (cc := cX9_sinks) (nL := 2) (ret := (some .int)) (by decide) rfl rfl (Nat.le_of_ble_eq_true rfl) ?_
  intro p e s m below meth c ls X E hP hS hl
  have hl : lv_has ls 2 [(0, .ref (ga G 63)), (1, .int a1)] := hl
  obtain ⟨hx, hb, -, -, hown, hts, -⟩ := id X
  rw [fX9_sinks] at hf
  refine lv_aload_n hx hb dX9_sinks_0 rfl (lv_at hl 0 rfl) ?_
  refine ggM_7 X E hP inX9_sinks_X9 lkX9_sinks_0 dX9_sinks_1 ?_
  refine lv_iload_n hx hb dX9_sinks_4 rfl (lv_at hl 1 rfl) ?_
  obtain ⟨b1, hf⟩ := g_if hf
  refine giM_7 X E hP b1 dX9_sinks_5 ?_
  refine lv_iconst (v := 5) hx hb dX9_sinks_6 (by decide) ?_
  refine lv_icmp_ne (tgt := 21) hx hb dX9_sinks_7 (by decide) (fun c2 => ?_) (fun c2 => ?_)
  · have hf := g_iff hf c2
    refine lv_aload_n hx hb dX9_sinks_21 rfl (lv_at hl 0 rfl) ?_
    refine ggM_8 X E hP inX9_sinks_X9 lkX9_sinks_1 dX9_sinks_22 ?_
    refine lv_iload_n hx hb dX9_sinks_25 rfl (lv_at hl 1 rfl) ?_
    obtain ⟨b3, hf⟩ := g_if hf
    refine giM_8 X E hP b3 dX9_sinks_26 ?_
    obtain rfl := g_some hf
    exact g_ri X E hP hS dX9_sinks_27
  · have hf := g_ift hf c2
    refine lv_iconst (v := 2) hx hb dX9_sinks_10 (by decide) ?_
    refine lv_aload_n hx hb dX9_sinks_11 rfl (lv_at hl 0 rfl) ?_
    refine ggM_8 X E hP inX9_sinks_X9 lkX9_sinks_1 dX9_sinks_12 ?_
    refine lv_iload_n hx hb dX9_sinks_15 rfl (lv_at hl 1 rfl) ?_
    obtain ⟨b4, hf⟩ := g_if hf
    refine giM_8 X E hP b4 dX9_sinks_16 ?_
    refine lv_imul hx hb dX9_sinks_17 ?_
    refine lv_goto (tgt := 27) hx hb dX9_sinks_18 (by decide) ?_
    obtain rfl := g_some hf
    exact g_ri X E hP hS dX9_sinks_27
theorem lkX9_says_0 : Cond.fieldLink RX9 50 RX9 "held" "[I" ∈ wsX9_says := by decide +kernel
theorem lkX9_says_1 : Cond.fieldLink RX9 59 RX9 "shown" "[I" ∈ wsX9_says := by decide +kernel
theorem lkX9_says_2 : Cond.fieldLink RX9 26 RX9 "kind" "[I" ∈ wsX9_says := by decide +kernel
theorem lkX9_says_3 : Cond.fieldLink RX9 38 RX9 "back" "[I" ∈ wsX9_says := by decide +kernel
theorem lkX9_says_4 : Cond.fieldLink RX9 41 RX9 "on" "[I" ∈ wsX9_says := by decide +kernel
theorem lkX9_says_5 : Cond.fieldLink RX9 29 RX9 "part" "[I" ∈ wsX9_says := by decide +kernel
theorem inX9_says_X9 : ∀ w ∈ wsX90, w ∈ wsX9_says := by decide +kernel
def fX9_says_L135 (S : GS) (v2 : Int32) (v3 : Int32) : Option (Int32 × GS) :=
  if v2 = (0 : Int32) then
    if v3 < 0 ∨ 16 ≤ (v3).toNatClampNeg then none else
    if v3 < 0 ∨ 16 ≤ (v3).toNatClampNeg then none else
    some (((S.2.2.1 11 (v3).toNatClampNeg) + (S.2.2.1 12 (v3).toNatClampNeg)), S)
  else if v2 = (1 : Int32) then
    if v3 < 0 ∨ 16 ≤ (v3).toNatClampNeg then none else
    if v3 < 0 ∨ 16 ≤ (v3).toNatClampNeg then none else
    some (((S.2.2.1 11 (v3).toNatClampNeg) - (S.2.2.1 12 (v3).toNatClampNeg)), S)
  else if v2 = (2 : Int32) then
    (fX9_sinks S v3).bind fun u27 =>
    some (u27, S)
  else if v2 = (3 : Int32) then
    if v3 < 0 ∨ 16 ≤ (v3).toNatClampNeg then none else
    if v3 < 0 ∨ 16 ≤ (v3).toNatClampNeg then none else
    some (((S.2.2.1 11 (v3).toNatClampNeg) - (S.2.2.1 12 (v3).toNatClampNeg)), S)
  else if v2 = (4 : Int32) then
    if v3 < 0 ∨ 16 ≤ (v3).toNatClampNeg then none else
    some ((S.2.2.1 8 (v3).toNatClampNeg), S)
  else if v2 = (5 : Int32) then
    (fX9_sinks S v3).bind fun u35 =>
    some (u35, S)
  else if v3 < 0 ∨ 16 ≤ (v3).toNatClampNeg then none else
  some ((S.2.2.1 8 (v3).toNatClampNeg), S)
set_option maxHeartbeats 4000000 in
set_option maxRecDepth 100000 in
theorem bX9_says_L135 {p : Program} {l : Launch} {e : Env} {s : State} {m : MethodId} {args : Array Value} {below : List Frame} {meth : Method} {c : Code} {G : GP} (X : GX p s m meth c args cX9_says 6 (some .int) wsX9_says RX9) (E : gE WM G s) (S : GS) (v2 : Int32) (v3 : Int32) (R : (Int32 × GS)) (H : Heap) (locs : List Loc) (ls : Array Slot) (hf : fX9_says_L135 S v2 v3 = some R) (hP : va_P (gD G) vwCl (WM G S ++ gF G) H) (hS : va_S (gA G) s.heap H locs) (hl : lv_has ls 6 [(0, .ref (ga G 63)), (2, .int v2), (3, .int v3)]) : W p l e (gR 1 21) s m args below meth c H locs 0 0 (MQ below (gQi WM G R.1 R.2) args s 0 0 (gA G)) (F0 m 135 ls []) := by
  obtain ⟨hx, hb, -, -, hown, hts, -⟩ := id X
  rw [fX9_says_L135] at hf
  refine lv_iload_n hx hb dX9_says_135 rfl (lv_at hl 1 rfl) ?_
  by_cases c20 : v2 = (0 : Int32)
  · have hf := g_ift hf c20
    refine g_tin (k := (0 : Int32)) (off := 40) (tgt := 176) hx hb dX9_says_136 c20 (by decide) ?_
    refine lv_aload_n hx hb dX9_says_176 rfl (lv_at hl 0 rfl) ?_
    refine ggM_11 X E hP inX9_says_X9 lkX9_says_3 dX9_says_177 ?_
    refine lv_iload_n hx hb dX9_says_180 rfl (lv_at hl 2 rfl) ?_
    obtain ⟨b21, hf⟩ := g_if hf
    refine giM_11 X E hP b21 dX9_says_181 ?_
    refine lv_aload_n hx hb dX9_says_182 rfl (lv_at hl 0 rfl) ?_
    refine ggM_12 X E hP inX9_says_X9 lkX9_says_4 dX9_says_183 ?_
    refine lv_iload_n hx hb dX9_says_186 rfl (lv_at hl 2 rfl) ?_
    obtain ⟨b22, hf⟩ := g_if hf
    refine giM_12 X E hP b22 dX9_says_187 ?_
    refine lv_iadd hx hb dX9_says_188 ?_
    obtain rfl := g_some hf
    exact g_ri X E hP hS dX9_says_189
  have hf := g_iff hf c20
  by_cases c23 : v2 = (1 : Int32)
  · have hf := g_ift hf c23
    refine g_tin (k := (1 : Int32)) (off := 54) (tgt := 190) hx hb dX9_says_136 c23 (by decide) ?_
    refine lv_aload_n hx hb dX9_says_190 rfl (lv_at hl 0 rfl) ?_
    refine ggM_11 X E hP inX9_says_X9 lkX9_says_3 dX9_says_191 ?_
    refine lv_iload_n hx hb dX9_says_194 rfl (lv_at hl 2 rfl) ?_
    obtain ⟨b24, hf⟩ := g_if hf
    refine giM_11 X E hP b24 dX9_says_195 ?_
    refine lv_aload_n hx hb dX9_says_196 rfl (lv_at hl 0 rfl) ?_
    refine ggM_12 X E hP inX9_says_X9 lkX9_says_4 dX9_says_197 ?_
    refine lv_iload_n hx hb dX9_says_200 rfl (lv_at hl 2 rfl) ?_
    obtain ⟨b25, hf⟩ := g_if hf
    refine giM_12 X E hP b25 dX9_says_201 ?_
    refine lv_isub hx hb dX9_says_202 ?_
    obtain rfl := g_some hf
    exact g_ri X E hP hS dX9_says_203
  have hf := g_iff hf c23
  by_cases c26 : v2 = (2 : Int32)
  · have hf := g_ift hf c26
    refine g_tin (k := (2 : Int32)) (off := 68) (tgt := 204) hx hb dX9_says_136 c26 (by decide) ?_
    refine lv_aload_n hx hb dX9_says_204 rfl (lv_at hl 0 rfl) ?_
    refine lv_iload_n hx hb dX9_says_205 rfl (lv_at hl 2 rfl) ?_
    obtain ⟨u27, h28, hf⟩ := g_bind hf
    refine g_vi (rest := []) X E hP hS (tcX9_sinks l G _ _ h28) (g_cwV X gX9_says_X9_sinks rfl hdX9_sinks ⟨Nat.le_of_ble_eq_true rfl, Nat.le_of_ble_eq_true rfl⟩) (rcM_model E hP) rfl hl.1 rfl (Nat.le_of_ble_eq_true rfl) dX9_says_206 ⟨Nat.le_refl _, Nat.le_refl _⟩ (fun H locs hP hS => ?_)
    obtain rfl := g_some hf
    exact g_ri X E hP hS dX9_says_209
  have hf := g_iff hf c26
  by_cases c29 : v2 = (3 : Int32)
  · have hf := g_ift hf c29
    refine g_tin (k := (3 : Int32)) (off := 54) (tgt := 190) hx hb dX9_says_136 c29 (by decide) ?_
    refine lv_aload_n hx hb dX9_says_190 rfl (lv_at hl 0 rfl) ?_
    refine ggM_11 X E hP inX9_says_X9 lkX9_says_3 dX9_says_191 ?_
    refine lv_iload_n hx hb dX9_says_194 rfl (lv_at hl 2 rfl) ?_
    obtain ⟨b30, hf⟩ := g_if hf
    refine giM_11 X E hP b30 dX9_says_195 ?_
    refine lv_aload_n hx hb dX9_says_196 rfl (lv_at hl 0 rfl) ?_
    refine ggM_12 X E hP inX9_says_X9 lkX9_says_4 dX9_says_197 ?_
    refine lv_iload_n hx hb dX9_says_200 rfl (lv_at hl 2 rfl) ?_
    obtain ⟨b31, hf⟩ := g_if hf
    refine giM_12 X E hP b31 dX9_says_201 ?_
    refine lv_isub hx hb dX9_says_202 ?_
    obtain rfl := g_some hf
    exact g_ri X E hP hS dX9_says_203
  have hf := g_iff hf c29
  by_cases c32 : v2 = (4 : Int32)
  · have hf := g_ift hf c32
    refine g_tin (k := (4 : Int32)) (off := 74) (tgt := 210) hx hb dX9_says_136 c32 (by decide) ?_
    refine lv_aload_n hx hb dX9_says_210 rfl (lv_at hl 0 rfl) ?_
    refine ggM_8 X E hP inX9_says_X9 lkX9_says_5 dX9_says_211 ?_
    refine lv_iload_n hx hb dX9_says_214 rfl (lv_at hl 2 rfl) ?_
    obtain ⟨b33, hf⟩ := g_if hf
    refine giM_8 X E hP b33 dX9_says_215 ?_
    obtain rfl := g_some hf
    exact g_ri X E hP hS dX9_says_216
  have hf := g_iff hf c32
  by_cases c34 : v2 = (5 : Int32)
  · have hf := g_ift hf c34
    refine g_tin (k := (5 : Int32)) (off := 68) (tgt := 204) hx hb dX9_says_136 c34 (by decide) ?_
    refine lv_aload_n hx hb dX9_says_204 rfl (lv_at hl 0 rfl) ?_
    refine lv_iload_n hx hb dX9_says_205 rfl (lv_at hl 2 rfl) ?_
    obtain ⟨u35, h36, hf⟩ := g_bind hf
    refine g_vi (rest := []) X E hP hS (tcX9_sinks l G _ _ h36) (g_cwV X gX9_says_X9_sinks rfl hdX9_sinks ⟨Nat.le_of_ble_eq_true rfl, Nat.le_of_ble_eq_true rfl⟩) (rcM_model E hP) rfl hl.1 rfl (Nat.le_of_ble_eq_true rfl) dX9_says_206 ⟨Nat.le_refl _, Nat.le_refl _⟩ (fun H locs hP hS => ?_)
    obtain rfl := g_some hf
    exact g_ri X E hP hS dX9_says_209
  have hf := g_iff hf c34
  refine lv_tableOut (tgt := 210) hx hb dX9_says_136 (by have e0 := lv_neT (a := 0) c20 (by decide); have e1 := lv_neT (a := 1) c23 (by decide); have e2 := lv_neT (a := 2) c26 (by decide); have e3 := lv_neT (a := 3) c29 (by decide); have e4 := lv_neT (a := 4) c32 (by decide); have e5 := lv_neT (a := 5) c34 (by decide); omega) (by decide) ?_
  refine lv_aload_n hx hb dX9_says_210 rfl (lv_at hl 0 rfl) ?_
  refine ggM_8 X E hP inX9_says_X9 lkX9_says_5 dX9_says_211 ?_
  refine lv_iload_n hx hb dX9_says_214 rfl (lv_at hl 2 rfl) ?_
  obtain ⟨b37, hf⟩ := g_if hf
  refine giM_8 X E hP b37 dX9_says_215 ?_
  obtain rfl := g_some hf
  exact g_ri X E hP hS dX9_says_216
def fX9_says_L110 (S : GS) (v2 : Int32) (v3 : Int32) (v4 : Int32) : Option (Int32 × GS) :=
  if v2 = 0 then
    fX9_says_L135 S v2 v3
  else
    if v2 = v4 then
      fX9_says_L135 S v2 v3
    else
      (fX9_noFar S (-2 : Int32)).bind fun u39 =>
      some (u39.1, u39.2)
set_option maxHeartbeats 4000000 in
set_option maxRecDepth 100000 in
theorem bX9_says_L110 {p : Program} {l : Launch} {e : Env} {s : State} {m : MethodId} {args : Array Value} {below : List Frame} {meth : Method} {c : Code} {G : GP} (X : GX p s m meth c args cX9_says 6 (some .int) wsX9_says RX9) (E : gE WM G s) (S : GS) (v2 : Int32) (v3 : Int32) (v4 : Int32) (R : (Int32 × GS)) (H : Heap) (locs : List Loc) (ls : Array Slot) (hf : fX9_says_L110 S v2 v3 v4 = some R) (hP : va_P (gD G) vwCl (WM G S ++ gF G) H) (hS : va_S (gA G) s.heap H locs) (hl : lv_has ls 6 [(0, .ref (ga G 63)), (2, .int v2), (3, .int v3), (4, .int v4)]) : W p l e (gR 1 21) s m args below meth c H locs 0 0 (MQ below (gQi WM G R.1 R.2) args s 0 0 (gA G)) (F0 m 110 ls []) := by
  obtain ⟨hx, hb, -, -, hown, hts, -⟩ := id X
  rw [fX9_says_L110] at hf
  refine lv_iconst (v := 0) hx hb dX9_says_110 (by decide) ?_
  refine lv_istore (lv' := [(5, .int (0 : Int32)), (0, .ref (ga G 63)), (2, .int v2), (3, .int v3), (4, .int v4)]) hx hb dX9_says_111 hl (by decide) rfl (fun ls hl => ?_)
  refine lv_iload_n hx hb dX9_says_113 rfl (lv_at hl 2 rfl) ?_
  refine lv_if_eq (tgt := 135) hx hb dX9_says_114 (by decide) (fun c19 => ?_) (fun c19 => ?_)
  · have hf := g_ift hf c19
    exact bX9_says_L135 X E _ _ _ _ _ _ _ hf hP hS (lv_sub hl [1, 2, 3] rfl)
  · have hf := g_iff hf c19
    refine lv_iload_n hx hb dX9_says_117 rfl (lv_at hl 2 rfl) ?_
    refine lv_iload hx hb dX9_says_118 (lv_at hl 4 rfl) ?_
    refine lv_icmp_eq (tgt := 135) hx hb dX9_says_120 (by decide) (fun c38 => ?_) (fun c38 => ?_)
    · have hf := g_ift hf c38
      exact bX9_says_L135 X E _ _ _ _ _ _ _ hf hP hS (lv_sub hl [1, 2, 3] rfl)
    · have hf := g_iff hf c38
      refine lv_iload hx hb dX9_says_123 (lv_at hl 0 rfl) ?_
      refine lv_if_ne (tgt := 135) hx hb dX9_says_125 (by decide) (fun z => absurd z (by decide)) (fun _ => ?_)
      refine lv_aload_n hx hb dX9_says_128 rfl (lv_at hl 1 rfl) ?_
      refine lv_bipush (v := -2) hx hb dX9_says_129 (by decide) ?_
      obtain ⟨u39, h40, hf⟩ := g_bind hf
      refine g_vi (rest := []) X E hP hS (tcX9_noFar l G _ _ h40) (g_cwV X gX9_says_X9_noFar rfl hdX9_noFar ⟨Nat.le_of_ble_eq_true rfl, Nat.le_of_ble_eq_true rfl⟩) (rcM_model E hP) rfl hl.1 rfl (Nat.le_of_ble_eq_true rfl) dX9_says_131 ⟨Nat.le_refl _, Nat.le_refl _⟩ (fun H locs hP hS => ?_)
      obtain rfl := g_some hf
      exact g_ri X E hP hS dX9_says_134
def fX9_says_L106 (S : GS) (v2 : Int32) (v3 : Int32) (v4 : Int32) : Option (Int32 × GS) :=
  if v2 = 0 then
    fX9_says_L135 S v2 v3
  else
    if v2 = v4 then
      fX9_says_L135 S v2 v3
    else
      fX9_says_L135 S v2 v3
set_option maxHeartbeats 4000000 in
set_option maxRecDepth 100000 in
theorem bX9_says_L106 {p : Program} {l : Launch} {e : Env} {s : State} {m : MethodId} {args : Array Value} {below : List Frame} {meth : Method} {c : Code} {G : GP} (X : GX p s m meth c args cX9_says 6 (some .int) wsX9_says RX9) (E : gE WM G s) (S : GS) (v2 : Int32) (v3 : Int32) (v4 : Int32) (R : (Int32 × GS)) (H : Heap) (locs : List Loc) (ls : Array Slot) (hf : fX9_says_L106 S v2 v3 v4 = some R) (hP : va_P (gD G) vwCl (WM G S ++ gF G) H) (hS : va_S (gA G) s.heap H locs) (hl : lv_has ls 6 [(0, .ref (ga G 63)), (2, .int v2), (3, .int v3), (4, .int v4)]) : W p l e (gR 1 21) s m args below meth c H locs 0 0 (MQ below (gQi WM G R.1 R.2) args s 0 0 (gA G)) (F0 m 106 ls []) := by
  obtain ⟨hx, hb, -, -, hown, hts, -⟩ := id X
  rw [fX9_says_L106] at hf
  refine lv_iconst (v := 1) hx hb dX9_says_106 (by decide) ?_
  refine lv_goto (tgt := 111) hx hb dX9_says_107 (by decide) ?_
  refine lv_istore (lv' := [(5, .int (1 : Int32)), (0, .ref (ga G 63)), (2, .int v2), (3, .int v3), (4, .int v4)]) hx hb dX9_says_111 hl (by decide) rfl (fun ls hl => ?_)
  refine lv_iload_n hx hb dX9_says_113 rfl (lv_at hl 2 rfl) ?_
  refine lv_if_eq (tgt := 135) hx hb dX9_says_114 (by decide) (fun c42 => ?_) (fun c42 => ?_)
  · have hf := g_ift hf c42
    exact bX9_says_L135 X E _ _ _ _ _ _ _ hf hP hS (lv_sub hl [1, 2, 3] rfl)
  · have hf := g_iff hf c42
    refine lv_iload_n hx hb dX9_says_117 rfl (lv_at hl 2 rfl) ?_
    refine lv_iload hx hb dX9_says_118 (lv_at hl 4 rfl) ?_
    refine lv_icmp_eq (tgt := 135) hx hb dX9_says_120 (by decide) (fun c43 => ?_) (fun c43 => ?_)
    · have hf := g_ift hf c43
      exact bX9_says_L135 X E _ _ _ _ _ _ _ hf hP hS (lv_sub hl [1, 2, 3] rfl)
    · have hf := g_iff hf c43
      refine lv_iload hx hb dX9_says_123 (lv_at hl 0 rfl) ?_
      refine lv_if_ne (tgt := 135) hx hb dX9_says_125 (by decide) (fun _ => ?_) (fun z => absurd z (by decide))
      exact bX9_says_L135 X E _ _ _ _ _ _ _ hf hP hS (lv_sub hl [1, 2, 3] rfl)
def fX9_says_L94 (S : GS) (v2 : Int32) (v3 : Int32) (v4 : Int32) : Option (Int32 × GS) :=
  if v2 = (4 : Int32) then
    if v4 = (6 : Int32) then
      fX9_says_L106 S v2 v3 v4
    else
      fX9_says_L110 S v2 v3 v4
  else
    fX9_says_L110 S v2 v3 v4
set_option maxHeartbeats 4000000 in
set_option maxRecDepth 100000 in
theorem bX9_says_L94 {p : Program} {l : Launch} {e : Env} {s : State} {m : MethodId} {args : Array Value} {below : List Frame} {meth : Method} {c : Code} {G : GP} (X : GX p s m meth c args cX9_says 6 (some .int) wsX9_says RX9) (E : gE WM G s) (S : GS) (v2 : Int32) (v3 : Int32) (v4 : Int32) (R : (Int32 × GS)) (H : Heap) (locs : List Loc) (ls : Array Slot) (hf : fX9_says_L94 S v2 v3 v4 = some R) (hP : va_P (gD G) vwCl (WM G S ++ gF G) H) (hS : va_S (gA G) s.heap H locs) (hl : lv_has ls 6 [(0, .ref (ga G 63)), (2, .int v2), (3, .int v3), (4, .int v4)]) : W p l e (gR 1 21) s m args below meth c H locs 0 0 (MQ below (gQi WM G R.1 R.2) args s 0 0 (gA G)) (F0 m 94 ls []) := by
  obtain ⟨hx, hb, -, -, hown, hts, -⟩ := id X
  rw [fX9_says_L94] at hf
  refine lv_iload_n hx hb dX9_says_94 rfl (lv_at hl 1 rfl) ?_
  refine lv_iconst (v := 4) hx hb dX9_says_95 (by decide) ?_
  refine lv_icmp_ne (tgt := 110) hx hb dX9_says_96 (by decide) (fun c18 => ?_) (fun c18 => ?_)
  · have hf := g_iff hf c18
    exact bX9_says_L110 X E _ _ _ _ _ _ _ _ hf hP hS (lv_sub hl [0, 1, 2, 3] rfl)
  · have hf := g_ift hf c18
    refine lv_iload hx hb dX9_says_99 (lv_at hl 3 rfl) ?_
    refine lv_bipush (v := 6) hx hb dX9_says_101 (by decide) ?_
    refine lv_icmp_ne (tgt := 110) hx hb dX9_says_103 (by decide) (fun c41 => ?_) (fun c41 => ?_)
    · have hf := g_iff hf c41
      exact bX9_says_L110 X E _ _ _ _ _ _ _ _ hf hP hS (lv_sub hl [0, 1, 2, 3] rfl)
    · have hf := g_ift hf c41
      exact bX9_says_L106 X E _ _ _ _ _ _ _ _ hf hP hS (lv_sub hl [0, 1, 2, 3] rfl)
def fX9_says_L83 (S : GS) (v2 : Int32) (v3 : Int32) (v4 : Int32) : Option (Int32 × GS) :=
  if v2 = (2 : Int32) then
    if v4 = (5 : Int32) then
      fX9_says_L106 S v2 v3 v4
    else
      fX9_says_L94 S v2 v3 v4
  else
    fX9_says_L94 S v2 v3 v4
set_option maxHeartbeats 4000000 in
set_option maxRecDepth 100000 in
theorem bX9_says_L83 {p : Program} {l : Launch} {e : Env} {s : State} {m : MethodId} {args : Array Value} {below : List Frame} {meth : Method} {c : Code} {G : GP} (X : GX p s m meth c args cX9_says 6 (some .int) wsX9_says RX9) (E : gE WM G s) (S : GS) (v2 : Int32) (v3 : Int32) (v4 : Int32) (R : (Int32 × GS)) (H : Heap) (locs : List Loc) (ls : Array Slot) (hf : fX9_says_L83 S v2 v3 v4 = some R) (hP : va_P (gD G) vwCl (WM G S ++ gF G) H) (hS : va_S (gA G) s.heap H locs) (hl : lv_has ls 6 [(0, .ref (ga G 63)), (2, .int v2), (3, .int v3), (4, .int v4)]) : W p l e (gR 1 21) s m args below meth c H locs 0 0 (MQ below (gQi WM G R.1 R.2) args s 0 0 (gA G)) (F0 m 83 ls []) := by
  obtain ⟨hx, hb, -, -, hown, hts, -⟩ := id X
  rw [fX9_says_L83] at hf
  refine lv_iload_n hx hb dX9_says_83 rfl (lv_at hl 1 rfl) ?_
  refine lv_iconst (v := 2) hx hb dX9_says_84 (by decide) ?_
  refine lv_icmp_ne (tgt := 94) hx hb dX9_says_85 (by decide) (fun c17 => ?_) (fun c17 => ?_)
  · have hf := g_iff hf c17
    exact bX9_says_L94 X E _ _ _ _ _ _ _ _ hf hP hS (lv_sub hl [0, 1, 2, 3] rfl)
  · have hf := g_ift hf c17
    refine lv_iload hx hb dX9_says_88 (lv_at hl 3 rfl) ?_
    refine lv_iconst (v := 5) hx hb dX9_says_90 (by decide) ?_
    refine lv_icmp_eq (tgt := 106) hx hb dX9_says_91 (by decide) (fun c44 => ?_) (fun c44 => ?_)
    · have hf := g_ift hf c44
      exact bX9_says_L106 X E _ _ _ _ _ _ _ _ hf hP hS (lv_sub hl [0, 1, 2, 3] rfl)
    · have hf := g_iff hf c44
      exact bX9_says_L94 X E _ _ _ _ _ _ _ _ hf hP hS (lv_sub hl [0, 1, 2, 3] rfl)
def fX9_says (S : GS) (a1 : Int32) (a2 : Int32) : Option (Int32 × GS) :=
  (fX9_isShelf S a1).bind fun u1 =>
  if u1 = 0 then
    (fX9_noFar S (-1 : Int32)).bind fun u4 =>
    some (u4.1, u4.2)
  else
    if a2 < 0 then
      (fX9_noFar S (-1 : Int32)).bind fun u7 =>
      some (u7.1, u7.2)
    else
      if a2 ≤ (6 : Int32) then
        if a1 < 0 ∨ 8 ≤ (a1).toNatClampNeg then none else
        if (S.2.2.1 15 (a1).toNatClampNeg) = (1 : Int32) then
          (fX9_noFar S (-2 : Int32)).bind fun u48 =>
          some (u48.1, u48.2)
        else
          if a1 < 0 ∨ 8 ≤ (a1).toNatClampNeg then none else
          if (S.2.2.1 15 (a1).toNatClampNeg) = 0 then
            (fX9_noFar S (-3 : Int32)).bind fun u46 =>
            some (u46.1, u46.2)
          else
            if a1 < 0 ∨ 8 ≤ (a1).toNatClampNeg then none else
            if (S.2.2.1 18 (a1).toNatClampNeg) < 0 ∨ 16 ≤ (S.2.2.1 18 (a1).toNatClampNeg).toNatClampNeg then none else
            if a2 = (1 : Int32) then
              if (S.2.2.1 7 (S.2.2.1 18 (a1).toNatClampNeg).toNatClampNeg) = (3 : Int32) then
                fX9_says_L106 S a2 (S.2.2.1 18 (a1).toNatClampNeg) (S.2.2.1 7 (S.2.2.1 18 (a1).toNatClampNeg).toNatClampNeg)
              else
                fX9_says_L83 S a2 (S.2.2.1 18 (a1).toNatClampNeg) (S.2.2.1 7 (S.2.2.1 18 (a1).toNatClampNeg).toNatClampNeg)
            else
              fX9_says_L83 S a2 (S.2.2.1 18 (a1).toNatClampNeg) (S.2.2.1 7 (S.2.2.1 18 (a1).toNatClampNeg).toNatClampNeg)
      else
        (fX9_noFar S (-1 : Int32)).bind fun u50 =>
        some (u50.1, u50.2)
set_option maxHeartbeats 4000000 in
set_option maxRecDepth 100000 in
theorem tcX9_says (l : Launch) (G : GP) (S : GS) (a1 : Int32) (a2 : Int32) {R : (Int32 × GS)} (hf : fX9_says S a1 a2 = some R) : CI l yX9_says wsX9_says 1 21 [.ref (ga G 63), .int a1, .int a2] WM G S R.1 R.2 := by
  refine g_met RX9 (cc := cX9_says) (nL := 6) (ret := (some .int)) (by decide) rfl rfl (Nat.le_of_ble_eq_true rfl) ?_
  intro p e s m below meth c ls X E hP hS hl
  have hl : lv_has ls 6 [(0, .ref (ga G 63)), (1, .int a1), (2, .int a2)] := hl
  obtain ⟨hx, hb, -, -, hown, hts, -⟩ := id X
  rw [fX9_says] at hf
  refine lv_aload_n hx hb dX9_says_0 rfl (lv_at hl 0 rfl) ?_
  refine lv_iload_n hx hb dX9_says_1 rfl (lv_at hl 1 rfl) ?_
  obtain ⟨u1, h2, hf⟩ := g_bind hf
  refine g_vi (rest := []) X E hP hS (tcX9_isShelf l G _ _ h2) (g_cwV X gX9_says_X9_isShelf rfl hdX9_isShelf ⟨Nat.le_of_ble_eq_true rfl, Nat.le_of_ble_eq_true rfl⟩) (rcM_model E hP) rfl hl.1 rfl (Nat.le_of_ble_eq_true rfl) dX9_says_2 ⟨Nat.le_refl _, Nat.le_refl _⟩ (fun H locs hP hS => ?_)
  refine lv_if_eq (tgt := 18) hx hb dX9_says_5 (by decide) (fun c3 => ?_) (fun c3 => ?_)
  · have hf := g_ift hf c3
    refine lv_aload_n hx hb dX9_says_18 rfl (lv_at hl 0 rfl) ?_
    refine lv_iconst (v := -1) hx hb dX9_says_19 (by decide) ?_
    obtain ⟨u4, h5, hf⟩ := g_bind hf
    refine g_vi (rest := []) X E hP hS (tcX9_noFar l G _ _ h5) (g_cwV X gX9_says_X9_noFar rfl hdX9_noFar ⟨Nat.le_of_ble_eq_true rfl, Nat.le_of_ble_eq_true rfl⟩) (rcM_model E hP) rfl hl.1 rfl (Nat.le_of_ble_eq_true rfl) dX9_says_20 ⟨Nat.le_refl _, Nat.le_refl _⟩ (fun H locs hP hS => ?_)
    obtain rfl := g_some hf
    exact g_ri X E hP hS dX9_says_23
  · have hf := g_iff hf c3
    refine lv_iload_n hx hb dX9_says_8 rfl (lv_at hl 2 rfl) ?_
    refine lv_if_lt (tgt := 18) hx hb dX9_says_9 (by decide) (fun c6 => ?_) (fun c6 => ?_)
    · have hf := g_ift hf c6
      refine lv_aload_n hx hb dX9_says_18 rfl (lv_at hl 0 rfl) ?_
      refine lv_iconst (v := -1) hx hb dX9_says_19 (by decide) ?_
      obtain ⟨u7, h8, hf⟩ := g_bind hf
      refine g_vi (rest := []) X E hP hS (tcX9_noFar l G _ _ h8) (g_cwV X gX9_says_X9_noFar rfl hdX9_noFar ⟨Nat.le_of_ble_eq_true rfl, Nat.le_of_ble_eq_true rfl⟩) (rcM_model E hP) rfl hl.1 rfl (Nat.le_of_ble_eq_true rfl) dX9_says_20 ⟨Nat.le_refl _, Nat.le_refl _⟩ (fun H locs hP hS => ?_)
      obtain rfl := g_some hf
      exact g_ri X E hP hS dX9_says_23
    · have hf := g_iff hf c6
      refine lv_iload_n hx hb dX9_says_12 rfl (lv_at hl 2 rfl) ?_
      refine lv_bipush (v := 6) hx hb dX9_says_13 (by decide) ?_
      refine lv_icmp_le (tgt := 24) hx hb dX9_says_15 (by decide) (fun c9 => ?_) (fun c9 => ?_)
      · have hf := g_ift hf c9
        refine lv_aload_n hx hb dX9_says_24 rfl (lv_at hl 0 rfl) ?_
        refine ggM_15 X E hP inX9_says_X9 lkX9_says_0 dX9_says_25 ?_
        refine lv_iload_n hx hb dX9_says_28 rfl (lv_at hl 1 rfl) ?_
        obtain ⟨b10, hf⟩ := g_if hf
        refine giM_15 X E hP b10 dX9_says_29 ?_
        refine lv_iconst (v := 1) hx hb dX9_says_30 (by decide) ?_
        refine lv_icmp_ne (tgt := 41) hx hb dX9_says_31 (by decide) (fun c11 => ?_) (fun c11 => ?_)
        · have hf := g_iff hf c11
          refine lv_aload_n hx hb dX9_says_41 rfl (lv_at hl 0 rfl) ?_
          refine ggM_15 X E hP inX9_says_X9 lkX9_says_0 dX9_says_42 ?_
          refine lv_iload_n hx hb dX9_says_45 rfl (lv_at hl 1 rfl) ?_
          obtain ⟨b12, hf⟩ := g_if hf
          refine giM_15 X E hP b12 dX9_says_46 ?_
          refine lv_if_ne (tgt := 57) hx hb dX9_says_47 (by decide) (fun c13 => ?_) (fun c13 => ?_)
          · have hf := g_iff hf c13
            refine lv_aload_n hx hb dX9_says_57 rfl (lv_at hl 0 rfl) ?_
            refine ggM_18 X E hP inX9_says_X9 lkX9_says_1 dX9_says_58 ?_
            refine lv_iload_n hx hb dX9_says_61 rfl (lv_at hl 1 rfl) ?_
            obtain ⟨b14, hf⟩ := g_if hf
            refine giM_18 X E hP b14 dX9_says_62 ?_
            refine lv_istore_n (lv' := [(3, .int (S.2.2.1 18 (a1).toNatClampNeg)), (0, .ref (ga G 63)), (1, .int a1), (2, .int a2)]) hx hb dX9_says_63 rfl hl (by decide) rfl (fun ls hl => ?_)
            refine lv_aload_n hx hb dX9_says_64 rfl (lv_at hl 1 rfl) ?_
            refine ggM_7 X E hP inX9_says_X9 lkX9_says_2 dX9_says_65 ?_
            refine lv_iload_n hx hb dX9_says_68 rfl (lv_at hl 0 rfl) ?_
            obtain ⟨b15, hf⟩ := g_if hf
            refine giM_7 X E hP b15 dX9_says_69 ?_
            refine lv_istore (lv' := [(4, .int (S.2.2.1 7 (S.2.2.1 18 (a1).toNatClampNeg).toNatClampNeg)), (3, .int (S.2.2.1 18 (a1).toNatClampNeg)), (0, .ref (ga G 63)), (1, .int a1), (2, .int a2)]) hx hb dX9_says_70 hl (by decide) rfl (fun ls hl => ?_)
            refine lv_iload_n hx hb dX9_says_72 rfl (lv_at hl 4 rfl) ?_
            refine lv_iconst (v := 1) hx hb dX9_says_73 (by decide) ?_
            refine lv_icmp_ne (tgt := 83) hx hb dX9_says_74 (by decide) (fun c16 => ?_) (fun c16 => ?_)
            · have hf := g_iff hf c16
              exact bX9_says_L83 X E _ _ _ _ _ _ _ _ hf hP hS (lv_sub hl [2, 4, 1, 0] rfl)
            · have hf := g_ift hf c16
              refine lv_iload hx hb dX9_says_77 (lv_at hl 0 rfl) ?_
              refine lv_iconst (v := 3) hx hb dX9_says_79 (by decide) ?_
              refine lv_icmp_eq (tgt := 106) hx hb dX9_says_80 (by decide) (fun c45 => ?_) (fun c45 => ?_)
              · have hf := g_ift hf c45
                exact bX9_says_L106 X E _ _ _ _ _ _ _ _ hf hP hS (lv_sub hl [2, 4, 1, 0] rfl)
              · have hf := g_iff hf c45
                exact bX9_says_L83 X E _ _ _ _ _ _ _ _ hf hP hS (lv_sub hl [2, 4, 1, 0] rfl)
          · have hf := g_ift hf c13
            refine lv_aload_n hx hb dX9_says_50 rfl (lv_at hl 0 rfl) ?_
            refine lv_bipush (v := -3) hx hb dX9_says_51 (by decide) ?_
            obtain ⟨u46, h47, hf⟩ := g_bind hf
            refine g_vi (rest := []) X E hP hS (tcX9_noFar l G _ _ h47) (g_cwV X gX9_says_X9_noFar rfl hdX9_noFar ⟨Nat.le_of_ble_eq_true rfl, Nat.le_of_ble_eq_true rfl⟩) (rcM_model E hP) rfl hl.1 rfl (Nat.le_of_ble_eq_true rfl) dX9_says_53 ⟨Nat.le_refl _, Nat.le_refl _⟩ (fun H locs hP hS => ?_)
            obtain rfl := g_some hf
            exact g_ri X E hP hS dX9_says_56
        · have hf := g_ift hf c11
          refine lv_aload_n hx hb dX9_says_34 rfl (lv_at hl 0 rfl) ?_
          refine lv_bipush (v := -2) hx hb dX9_says_35 (by decide) ?_
          obtain ⟨u48, h49, hf⟩ := g_bind hf
          refine g_vi (rest := []) X E hP hS (tcX9_noFar l G _ _ h49) (g_cwV X gX9_says_X9_noFar rfl hdX9_noFar ⟨Nat.le_of_ble_eq_true rfl, Nat.le_of_ble_eq_true rfl⟩) (rcM_model E hP) rfl hl.1 rfl (Nat.le_of_ble_eq_true rfl) dX9_says_37 ⟨Nat.le_refl _, Nat.le_refl _⟩ (fun H locs hP hS => ?_)
          obtain rfl := g_some hf
          exact g_ri X E hP hS dX9_says_40
      · have hf := g_iff hf c9
        refine lv_aload_n hx hb dX9_says_18 rfl (lv_at hl 0 rfl) ?_
        refine lv_iconst (v := -1) hx hb dX9_says_19 (by decide) ?_
        obtain ⟨u50, h51, hf⟩ := g_bind hf
        refine g_vi (rest := []) X E hP hS (tcX9_noFar l G _ _ h51) (g_cwV X gX9_says_X9_noFar rfl hdX9_noFar ⟨Nat.le_of_ble_eq_true rfl, Nat.le_of_ble_eq_true rfl⟩) (rcM_model E hP) rfl hl.1 rfl (Nat.le_of_ble_eq_true rfl) dX9_says_20 ⟨Nat.le_refl _, Nat.le_refl _⟩ (fun H locs hP hS => ?_)
        obtain rfl := g_some hf
        exact g_ri X E hP hS dX9_says_23
def fX9_isReading (S : GS) (a1 : Int32) : Option Int32 :=
  if a1 < 0 then
    some (0 : Int32)
  else
    if (9999 : Int32) < a1 then
      some (0 : Int32)
    else
      some (1 : Int32)
set_option maxHeartbeats 4000000 in
set_option maxRecDepth 100000 in
theorem tcX9_isReading (l : Launch) (G : GP) (S : GS) (a1 : Int32) {R : Int32} (hf : fX9_isReading S a1 = some R) : CI l yX9_isReading wsX9_isReading 0 0 [.ref (ga G 63), .int a1] WM G S R S := by
  refine g_met RX9 (cc := cX9_isReading) (nL := 2) (ret := (some .boolean)) (by decide) rfl rfl (Nat.le_of_ble_eq_true rfl) ?_
  intro p e s m below meth c ls X E hP hS hl
  have hl : lv_has ls 2 [(0, .ref (ga G 63)), (1, .int a1)] := hl
  obtain ⟨hx, hb, -, -, hown, hts, -⟩ := id X
  rw [fX9_isReading] at hf
  refine lv_iload_n hx hb dX9_isReading_0 rfl (lv_at hl 1 rfl) ?_
  refine lv_if_lt (tgt := 15) hx hb dX9_isReading_1 (by decide) (fun c1 => ?_) (fun c1 => ?_)
  · have hf := g_ift hf c1
    refine lv_iconst (v := 0) hx hb dX9_isReading_15 (by decide) ?_
    obtain rfl := g_some hf
    exact g_rz (v := (0 : Int32)) X E hP hS rfl dX9_isReading_16
  · have hf := g_iff hf c1
    refine lv_iload_n hx hb dX9_isReading_4 rfl (lv_at hl 1 rfl) ?_
    refine lv_sipush (v := 9999) hx hb dX9_isReading_5 (by decide) ?_
    refine lv_icmp_gt (tgt := 15) hx hb dX9_isReading_8 (by decide) (fun c2 => ?_) (fun c2 => ?_)
    · have hf := g_ift hf c2
      refine lv_iconst (v := 0) hx hb dX9_isReading_15 (by decide) ?_
      obtain rfl := g_some hf
      exact g_rz (v := (0 : Int32)) X E hP hS rfl dX9_isReading_16
    · have hf := g_iff hf c2
      refine lv_iconst (v := 1) hx hb dX9_isReading_11 (by decide) ?_
      refine lv_goto (tgt := 16) hx hb dX9_isReading_12 (by decide) ?_
      obtain rfl := g_some hf
      exact g_rz (v := (1 : Int32)) X E hP hS rfl dX9_isReading_16
def fX9_isYards (S : GS) (a1 : Int32) : Option Int32 :=
  if a1 < (1 : Int32) then
    some (0 : Int32)
  else
    if (99 : Int32) < a1 then
      some (0 : Int32)
    else
      some (1 : Int32)
set_option maxHeartbeats 4000000 in
set_option maxRecDepth 100000 in
theorem tcX9_isYards (l : Launch) (G : GP) (S : GS) (a1 : Int32) {R : Int32} (hf : fX9_isYards S a1 = some R) : CI l yX9_isYards wsX9_isYards 0 0 [.ref (ga G 63), .int a1] WM G S R S := by
  refine g_met RX9 (cc := cX9_isYards) (nL := 2) (ret := (some .boolean)) (by decide) rfl rfl (Nat.le_of_ble_eq_true rfl) ?_
  intro p e s m below meth c ls X E hP hS hl
  have hl : lv_has ls 2 [(0, .ref (ga G 63)), (1, .int a1)] := hl
  obtain ⟨hx, hb, -, -, hown, hts, -⟩ := id X
  rw [fX9_isYards] at hf
  refine lv_iload_n hx hb dX9_isYards_0 rfl (lv_at hl 1 rfl) ?_
  refine lv_iconst (v := 1) hx hb dX9_isYards_1 (by decide) ?_
  refine lv_icmp_lt (tgt := 15) hx hb dX9_isYards_2 (by decide) (fun c1 => ?_) (fun c1 => ?_)
  · have hf := g_ift hf c1
    refine lv_iconst (v := 0) hx hb dX9_isYards_15 (by decide) ?_
    obtain rfl := g_some hf
    exact g_rz (v := (0 : Int32)) X E hP hS rfl dX9_isYards_16
  · have hf := g_iff hf c1
    refine lv_iload_n hx hb dX9_isYards_5 rfl (lv_at hl 1 rfl) ?_
    refine lv_bipush (v := 99) hx hb dX9_isYards_6 (by decide) ?_
    refine lv_icmp_gt (tgt := 15) hx hb dX9_isYards_8 (by decide) (fun c2 => ?_) (fun c2 => ?_)
    · have hf := g_ift hf c2
      refine lv_iconst (v := 0) hx hb dX9_isYards_15 (by decide) ?_
      obtain rfl := g_some hf
      exact g_rz (v := (0 : Int32)) X E hP hS rfl dX9_isYards_16
    · have hf := g_iff hf c2
      refine lv_iconst (v := 1) hx hb dX9_isYards_11 (by decide) ?_
      refine lv_goto (tgt := 16) hx hb dX9_isYards_12 (by decide) ?_
      obtain rfl := g_some hf
      exact g_rz (v := (1 : Int32)) X E hP hS rfl dX9_isYards_16
theorem lkX9_adds_0 : Cond.fieldLink RX9 26 RX9 "kind" "[I" ∈ wsX9_adds := by decide +kernel
theorem lkX9_adds_1 : Cond.fieldLink RX9 91 RX9 "many" "I" ∈ wsX9_adds := by decide +kernel
theorem lkX9_adds_2 : Cond.fieldLink RX9 29 RX9 "part" "[I" ∈ wsX9_adds := by decide +kernel
theorem lkX9_adds_3 : Cond.fieldLink RX9 32 RX9 "behind" "[I" ∈ wsX9_adds := by decide +kernel
theorem lkX9_adds_4 : Cond.fieldLink RX9 35 RX9 "ahead" "[I" ∈ wsX9_adds := by decide +kernel
theorem lkX9_adds_5 : Cond.fieldLink RX9 38 RX9 "back" "[I" ∈ wsX9_adds := by decide +kernel
theorem lkX9_adds_6 : Cond.fieldLink RX9 41 RX9 "on" "[I" ∈ wsX9_adds := by decide +kernel
theorem lkX9_adds_7 : Cond.fieldLink RX9 44 RX9 "holder" "[I" ∈ wsX9_adds := by decide +kernel
theorem lkX9_adds_8 : Cond.fieldLink RX9 47 RX9 "first" "[I" ∈ wsX9_adds := by decide +kernel
theorem inX9_adds_X9 : ∀ w ∈ wsX90, w ∈ wsX9_adds := by decide +kernel
def fX9_adds (S : GS) (a1 : Int32) (a2 : Int32) (a3 : Int32) (a4 : Int32) (a5 : Int32) (a6 : Int32) : Option (Int32 × GS) :=
  if (S.1 0) < 0 ∨ 16 ≤ (S.1 0).toNatClampNeg then none else
  if ((gU3 S 7 (S.1 0).toNatClampNeg a1).1 0) < 0 ∨ 16 ≤ ((gU3 S 7 (S.1 0).toNatClampNeg a1).1 0).toNatClampNeg then none else
  if ((gU3 (gU3 S 7 (S.1 0).toNatClampNeg a1) 8 ((gU3 S 7 (S.1 0).toNatClampNeg a1).1 0).toNatClampNeg a2).1 0) < 0 ∨ 16 ≤ ((gU3 (gU3 S 7 (S.1 0).toNatClampNeg a1) 8 ((gU3 S 7 (S.1 0).toNatClampNeg a1).1 0).toNatClampNeg a2).1 0).toNatClampNeg then none else
  gLet (gU3 (gU3 (gU3 S 7 (S.1 0).toNatClampNeg a1) 8 ((gU3 S 7 (S.1 0).toNatClampNeg a1).1 0).toNatClampNeg a2) 9 ((gU3 (gU3 S 7 (S.1 0).toNatClampNeg a1) 8 ((gU3 S 7 (S.1 0).toNatClampNeg a1).1 0).toNatClampNeg a2).1 0).toNatClampNeg a3) fun T4 =>
  if (T4.1 0) < 0 ∨ 16 ≤ (T4.1 0).toNatClampNeg then none else
  if ((gU3 T4 10 (T4.1 0).toNatClampNeg a4).1 0) < 0 ∨ 16 ≤ ((gU3 T4 10 (T4.1 0).toNatClampNeg a4).1 0).toNatClampNeg then none else
  if ((gU3 (gU3 T4 10 (T4.1 0).toNatClampNeg a4) 11 ((gU3 T4 10 (T4.1 0).toNatClampNeg a4).1 0).toNatClampNeg a5).1 0) < 0 ∨ 16 ≤ ((gU3 (gU3 T4 10 (T4.1 0).toNatClampNeg a4) 11 ((gU3 T4 10 (T4.1 0).toNatClampNeg a4).1 0).toNatClampNeg a5).1 0).toNatClampNeg then none else
  gLet (gU3 (gU3 (gU3 T4 10 (T4.1 0).toNatClampNeg a4) 11 ((gU3 T4 10 (T4.1 0).toNatClampNeg a4).1 0).toNatClampNeg a5) 12 ((gU3 (gU3 T4 10 (T4.1 0).toNatClampNeg a4) 11 ((gU3 T4 10 (T4.1 0).toNatClampNeg a4).1 0).toNatClampNeg a5).1 0).toNatClampNeg a6) fun T9 =>
  if (T9.1 0) < 0 ∨ 16 ≤ (T9.1 0).toNatClampNeg then none else
  if ((gU3 T9 13 (T9.1 0).toNatClampNeg (0 : Int32)).1 0) < 0 ∨ 16 ≤ ((gU3 T9 13 (T9.1 0).toNatClampNeg (0 : Int32)).1 0).toNatClampNeg then none else
  gLet (gU3 (gU3 T9 13 (T9.1 0).toNatClampNeg (0 : Int32)) 14 ((gU3 T9 13 (T9.1 0).toNatClampNeg (0 : Int32)).1 0).toNatClampNeg (0 : Int32)) fun T13 =>
  some ((T13.1 0), (gU1 T13 0 ((T13.1 0) + (1 : Int32))))
set_option maxHeartbeats 4000000 in
set_option maxRecDepth 100000 in
theorem tcX9_adds (l : Launch) (G : GP) (S : GS) (a1 : Int32) (a2 : Int32) (a3 : Int32) (a4 : Int32) (a5 : Int32) (a6 : Int32) {R : (Int32 × GS)} (hf : fX9_adds S a1 a2 a3 a4 a5 a6 = some R) : CI l yX9_adds wsX9_adds 0 0 [.ref (ga G 63), .int a1, .int a2, .int a3, .int a4, .int a5, .int a6] WM G S R.1 R.2 := by
  refine g_met RX9 (cc := cX9_adds) (nL := 7) (ret := (some .int)) (by decide) rfl rfl (Nat.le_of_ble_eq_true rfl) ?_
  intro p e s m below meth c ls X E hP hS hl
  have hl : lv_has ls 7 [(0, .ref (ga G 63)), (1, .int a1), (2, .int a2), (3, .int a3), (4, .int a4), (5, .int a5), (6, .int a6)] := hl
  obtain ⟨hx, hb, -, -, hown, hts, -⟩ := id X
  rw [fX9_adds] at hf
  refine lv_aload_n hx hb dX9_adds_0 rfl (lv_at hl 0 rfl) ?_
  refine ggM_7 X E hP inX9_adds_X9 lkX9_adds_0 dX9_adds_1 ?_
  refine lv_aload_n hx hb dX9_adds_4 rfl (lv_at hl 0 rfl) ?_
  refine ggM_0 X E hP inX9_adds_X9 lkX9_adds_1 dX9_adds_5 ?_
  refine lv_iload_n hx hb dX9_adds_8 rfl (lv_at hl 1 rfl) ?_
  obtain ⟨b1, hf⟩ := g_if hf
  refine gsM_7 X E hP hS b1 dX9_adds_9 (fun H locs hP hS => ?_)
  refine lv_aload_n hx hb dX9_adds_10 rfl (lv_at hl 0 rfl) ?_
  refine ggM_8 X E hP inX9_adds_X9 lkX9_adds_2 dX9_adds_11 ?_
  refine lv_aload_n hx hb dX9_adds_14 rfl (lv_at hl 0 rfl) ?_
  refine ggM_0 X E hP inX9_adds_X9 lkX9_adds_1 dX9_adds_15 ?_
  refine lv_iload_n hx hb dX9_adds_18 rfl (lv_at hl 2 rfl) ?_
  obtain ⟨b2, hf⟩ := g_if hf
  refine gsM_8 X E hP hS b2 dX9_adds_19 (fun H locs hP hS => ?_)
  refine lv_aload_n hx hb dX9_adds_20 rfl (lv_at hl 0 rfl) ?_
  refine ggM_9 X E hP inX9_adds_X9 lkX9_adds_3 dX9_adds_21 ?_
  refine lv_aload_n hx hb dX9_adds_24 rfl (lv_at hl 0 rfl) ?_
  refine ggM_0 X E hP inX9_adds_X9 lkX9_adds_1 dX9_adds_25 ?_
  refine lv_iload_n hx hb dX9_adds_28 rfl (lv_at hl 3 rfl) ?_
  obtain ⟨b3, hf⟩ := g_if hf
  refine gsM_9 X E hP hS b3 dX9_adds_29 (fun H locs hP hS => ?_)
  obtain ⟨T4, e5, hf⟩ := g_let hf
  rw [← e5] at hP
  refine lv_aload_n hx hb dX9_adds_30 rfl (lv_at hl 0 rfl) ?_
  refine ggM_10 X E hP inX9_adds_X9 lkX9_adds_4 dX9_adds_31 ?_
  refine lv_aload_n hx hb dX9_adds_34 rfl (lv_at hl 0 rfl) ?_
  refine ggM_0 X E hP inX9_adds_X9 lkX9_adds_1 dX9_adds_35 ?_
  refine lv_iload hx hb dX9_adds_38 (lv_at hl 4 rfl) ?_
  obtain ⟨b6, hf⟩ := g_if hf
  refine gsM_10 X E hP hS b6 dX9_adds_40 (fun H locs hP hS => ?_)
  refine lv_aload_n hx hb dX9_adds_41 rfl (lv_at hl 0 rfl) ?_
  refine ggM_11 X E hP inX9_adds_X9 lkX9_adds_5 dX9_adds_42 ?_
  refine lv_aload_n hx hb dX9_adds_45 rfl (lv_at hl 0 rfl) ?_
  refine ggM_0 X E hP inX9_adds_X9 lkX9_adds_1 dX9_adds_46 ?_
  refine lv_iload hx hb dX9_adds_49 (lv_at hl 5 rfl) ?_
  obtain ⟨b7, hf⟩ := g_if hf
  refine gsM_11 X E hP hS b7 dX9_adds_51 (fun H locs hP hS => ?_)
  refine lv_aload_n hx hb dX9_adds_52 rfl (lv_at hl 0 rfl) ?_
  refine ggM_12 X E hP inX9_adds_X9 lkX9_adds_6 dX9_adds_53 ?_
  refine lv_aload_n hx hb dX9_adds_56 rfl (lv_at hl 0 rfl) ?_
  refine ggM_0 X E hP inX9_adds_X9 lkX9_adds_1 dX9_adds_57 ?_
  refine lv_iload hx hb dX9_adds_60 (lv_at hl 6 rfl) ?_
  obtain ⟨b8, hf⟩ := g_if hf
  refine gsM_12 X E hP hS b8 dX9_adds_62 (fun H locs hP hS => ?_)
  obtain ⟨T9, e10, hf⟩ := g_let hf
  rw [← e10] at hP
  refine lv_aload_n hx hb dX9_adds_63 rfl (lv_at hl 0 rfl) ?_
  refine ggM_13 X E hP inX9_adds_X9 lkX9_adds_7 dX9_adds_64 ?_
  refine lv_aload_n hx hb dX9_adds_67 rfl (lv_at hl 0 rfl) ?_
  refine ggM_0 X E hP inX9_adds_X9 lkX9_adds_1 dX9_adds_68 ?_
  refine lv_iconst (v := 0) hx hb dX9_adds_71 (by decide) ?_
  obtain ⟨b11, hf⟩ := g_if hf
  refine gsM_13 X E hP hS b11 dX9_adds_72 (fun H locs hP hS => ?_)
  refine lv_aload_n hx hb dX9_adds_73 rfl (lv_at hl 0 rfl) ?_
  refine ggM_14 X E hP inX9_adds_X9 lkX9_adds_8 dX9_adds_74 ?_
  refine lv_aload_n hx hb dX9_adds_77 rfl (lv_at hl 0 rfl) ?_
  refine ggM_0 X E hP inX9_adds_X9 lkX9_adds_1 dX9_adds_78 ?_
  refine lv_iconst (v := 0) hx hb dX9_adds_81 (by decide) ?_
  obtain ⟨b12, hf⟩ := g_if hf
  refine gsM_14 X E hP hS b12 dX9_adds_82 (fun H locs hP hS => ?_)
  obtain ⟨T13, e14, hf⟩ := g_let hf
  rw [← e14] at hP
  refine lv_aload_n hx hb dX9_adds_83 rfl (lv_at hl 0 rfl) ?_
  refine lv_dup hx hb dX9_adds_84 rfl ?_
  refine ggM_0 X E hP inX9_adds_X9 lkX9_adds_1 dX9_adds_85 ?_
  refine lv_dup_x1 hx hb dX9_adds_88 rfl rfl ?_
  refine lv_iconst (v := 1) hx hb dX9_adds_89 (by decide) ?_
  refine lv_iadd hx hb dX9_adds_90 ?_
  refine gpM_0 X E hP hS inX9_adds_X9 lkX9_adds_1 dX9_adds_91 (fun H locs hP hS => ?_)
  obtain rfl := g_some hf
  exact g_ri X E hP hS dX9_adds_94
theorem lkX9_setup_0 : Cond.fieldLink RX9 91 RX9 "many" "I" ∈ wsX9_setup := by decide +kernel
theorem inX9_setup_X9 : ∀ w ∈ wsX90, w ∈ wsX9_setup := by decide +kernel
def fX9_setup (S : GS) (a1 : Int32) (a2 : Int32) (a3 : Int32) (a4 : Int32) (a5 : Int32) (a6 : Int32) : Option (Int32 × GS) :=
  if a1 < 0 then
    (fX9_no S (-1 : Int32)).bind fun u2 =>
    some (u2.1, u2.2)
  else
    if a1 ≤ (6 : Int32) then
      if a2 < 0 then
        (fX9_no S (-6 : Int32)).bind fun u6 =>
        some (u6.1, u6.2)
      else
        if (9 : Int32) < a2 then
          (fX9_no S (-6 : Int32)).bind fun u9 =>
          some (u9.1, u9.2)
        else
          (fX9_isReading S a3).bind fun u11 =>
          if u11 = 0 then
            (fX9_no S (-6 : Int32)).bind fun u14 =>
            some (u14.1, u14.2)
          else
            (fX9_isReading S a4).bind fun u16 =>
            if u16 = 0 then
              (fX9_no S (-6 : Int32)).bind fun u19 =>
              some (u19.1, u19.2)
            else
              (fX9_isYards S a5).bind fun u21 =>
              if u21 = 0 then
                (fX9_no S (-6 : Int32)).bind fun u24 =>
                some (u24.1, u24.2)
              else
                (fX9_isYards S a6).bind fun u26 =>
                if u26 = 0 then
                  (fX9_no S (-6 : Int32)).bind fun u34 =>
                  some (u34.1, u34.2)
                else
                  if (S.1 0) = (16 : Int32) then
                    (fX9_no S (-7 : Int32)).bind fun u32 =>
                    some (u32.1, u32.2)
                  else
                    (fX9_adds S a1 a2 a3 a4 a5 a6).bind fun u30 =>
                    some (u30.1, u30.2)
    else
      (fX9_no S (-1 : Int32)).bind fun u36 =>
      some (u36.1, u36.2)
set_option maxHeartbeats 4000000 in
set_option maxRecDepth 100000 in
theorem tcX9_setup (l : Launch) (G : GP) (S : GS) (a1 : Int32) (a2 : Int32) (a3 : Int32) (a4 : Int32) (a5 : Int32) (a6 : Int32) {R : (Int32 × GS)} (hf : fX9_setup S a1 a2 a3 a4 a5 a6 = some R) : CI l yX9_setup wsX9_setup 1 26 [.ref (ga G 63), .int a1, .int a2, .int a3, .int a4, .int a5, .int a6] WM G S R.1 R.2 := by
  refine g_met RX9 (cc := cX9_setup) (nL := 7) (ret := (some .int)) (by decide) rfl rfl (Nat.le_of_ble_eq_true rfl) ?_
  intro p e s m below meth c ls X E hP hS hl
  have hl : lv_has ls 7 [(0, .ref (ga G 63)), (1, .int a1), (2, .int a2), (3, .int a3), (4, .int a4), (5, .int a5), (6, .int a6)] := hl
  obtain ⟨hx, hb, -, -, hown, hts, -⟩ := id X
  rw [fX9_setup] at hf
  refine lv_iload_n hx hb dX9_setup_0 rfl (lv_at hl 1 rfl) ?_
  refine lv_if_lt (tgt := 10) hx hb dX9_setup_1 (by decide) (fun c1 => ?_) (fun c1 => ?_)
  · have hf := g_ift hf c1
    refine lv_aload_n hx hb dX9_setup_10 rfl (lv_at hl 0 rfl) ?_
    refine lv_iconst (v := -1) hx hb dX9_setup_11 (by decide) ?_
    obtain ⟨u2, h3, hf⟩ := g_bind hf
    refine g_vi (rest := []) X E hP hS (tcX9_no l G _ _ h3) (g_cwV X gX9_setup_X9_no rfl hdX9_no ⟨Nat.le_of_ble_eq_true rfl, Nat.le_of_ble_eq_true rfl⟩) (rcM_model E hP) rfl hl.1 rfl (Nat.le_of_ble_eq_true rfl) dX9_setup_12 ⟨Nat.le_refl _, Nat.le_refl _⟩ (fun H locs hP hS => ?_)
    obtain rfl := g_some hf
    exact g_ri X E hP hS dX9_setup_15
  · have hf := g_iff hf c1
    refine lv_iload_n hx hb dX9_setup_4 rfl (lv_at hl 1 rfl) ?_
    refine lv_bipush (v := 6) hx hb dX9_setup_5 (by decide) ?_
    refine lv_icmp_le (tgt := 16) hx hb dX9_setup_7 (by decide) (fun c4 => ?_) (fun c4 => ?_)
    · have hf := g_ift hf c4
      refine lv_iload_n hx hb dX9_setup_16 rfl (lv_at hl 2 rfl) ?_
      refine lv_if_lt (tgt := 61) hx hb dX9_setup_17 (by decide) (fun c5 => ?_) (fun c5 => ?_)
      · have hf := g_ift hf c5
        refine lv_aload_n hx hb dX9_setup_61 rfl (lv_at hl 0 rfl) ?_
        refine lv_bipush (v := -6) hx hb dX9_setup_62 (by decide) ?_
        obtain ⟨u6, h7, hf⟩ := g_bind hf
        refine g_vi (rest := []) X E hP hS (tcX9_no l G _ _ h7) (g_cwV X gX9_setup_X9_no rfl hdX9_no ⟨Nat.le_of_ble_eq_true rfl, Nat.le_of_ble_eq_true rfl⟩) (rcM_model E hP) rfl hl.1 rfl (Nat.le_of_ble_eq_true rfl) dX9_setup_64 ⟨Nat.le_refl _, Nat.le_refl _⟩ (fun H locs hP hS => ?_)
        obtain rfl := g_some hf
        exact g_ri X E hP hS dX9_setup_67
      · have hf := g_iff hf c5
        refine lv_iload_n hx hb dX9_setup_20 rfl (lv_at hl 2 rfl) ?_
        refine lv_bipush (v := 9) hx hb dX9_setup_21 (by decide) ?_
        refine lv_icmp_gt (tgt := 61) hx hb dX9_setup_23 (by decide) (fun c8 => ?_) (fun c8 => ?_)
        · have hf := g_ift hf c8
          refine lv_aload_n hx hb dX9_setup_61 rfl (lv_at hl 0 rfl) ?_
          refine lv_bipush (v := -6) hx hb dX9_setup_62 (by decide) ?_
          obtain ⟨u9, h10, hf⟩ := g_bind hf
          refine g_vi (rest := []) X E hP hS (tcX9_no l G _ _ h10) (g_cwV X gX9_setup_X9_no rfl hdX9_no ⟨Nat.le_of_ble_eq_true rfl, Nat.le_of_ble_eq_true rfl⟩) (rcM_model E hP) rfl hl.1 rfl (Nat.le_of_ble_eq_true rfl) dX9_setup_64 ⟨Nat.le_refl _, Nat.le_refl _⟩ (fun H locs hP hS => ?_)
          obtain rfl := g_some hf
          exact g_ri X E hP hS dX9_setup_67
        · have hf := g_iff hf c8
          refine lv_aload_n hx hb dX9_setup_26 rfl (lv_at hl 0 rfl) ?_
          refine lv_iload_n hx hb dX9_setup_27 rfl (lv_at hl 3 rfl) ?_
          obtain ⟨u11, h12, hf⟩ := g_bind hf
          refine g_vi (rest := []) X E hP hS (tcX9_isReading l G _ _ h12) (g_cwV X gX9_setup_X9_isReading rfl hdX9_isReading ⟨Nat.le_of_ble_eq_true rfl, Nat.le_of_ble_eq_true rfl⟩) (rcM_model E hP) rfl hl.1 rfl (Nat.le_of_ble_eq_true rfl) dX9_setup_28 ⟨Nat.le_refl _, Nat.le_refl _⟩ (fun H locs hP hS => ?_)
          refine lv_if_eq (tgt := 61) hx hb dX9_setup_31 (by decide) (fun c13 => ?_) (fun c13 => ?_)
          · have hf := g_ift hf c13
            refine lv_aload_n hx hb dX9_setup_61 rfl (lv_at hl 0 rfl) ?_
            refine lv_bipush (v := -6) hx hb dX9_setup_62 (by decide) ?_
            obtain ⟨u14, h15, hf⟩ := g_bind hf
            refine g_vi (rest := []) X E hP hS (tcX9_no l G _ _ h15) (g_cwV X gX9_setup_X9_no rfl hdX9_no ⟨Nat.le_of_ble_eq_true rfl, Nat.le_of_ble_eq_true rfl⟩) (rcM_model E hP) rfl hl.1 rfl (Nat.le_of_ble_eq_true rfl) dX9_setup_64 ⟨Nat.le_refl _, Nat.le_refl _⟩ (fun H locs hP hS => ?_)
            obtain rfl := g_some hf
            exact g_ri X E hP hS dX9_setup_67
          · have hf := g_iff hf c13
            refine lv_aload_n hx hb dX9_setup_34 rfl (lv_at hl 0 rfl) ?_
            refine lv_iload hx hb dX9_setup_35 (lv_at hl 4 rfl) ?_
            obtain ⟨u16, h17, hf⟩ := g_bind hf
            refine g_vi (rest := []) X E hP hS (tcX9_isReading l G _ _ h17) (g_cwV X gX9_setup_X9_isReading rfl hdX9_isReading ⟨Nat.le_of_ble_eq_true rfl, Nat.le_of_ble_eq_true rfl⟩) (rcM_model E hP) rfl hl.1 rfl (Nat.le_of_ble_eq_true rfl) dX9_setup_37 ⟨Nat.le_refl _, Nat.le_refl _⟩ (fun H locs hP hS => ?_)
            refine lv_if_eq (tgt := 61) hx hb dX9_setup_40 (by decide) (fun c18 => ?_) (fun c18 => ?_)
            · have hf := g_ift hf c18
              refine lv_aload_n hx hb dX9_setup_61 rfl (lv_at hl 0 rfl) ?_
              refine lv_bipush (v := -6) hx hb dX9_setup_62 (by decide) ?_
              obtain ⟨u19, h20, hf⟩ := g_bind hf
              refine g_vi (rest := []) X E hP hS (tcX9_no l G _ _ h20) (g_cwV X gX9_setup_X9_no rfl hdX9_no ⟨Nat.le_of_ble_eq_true rfl, Nat.le_of_ble_eq_true rfl⟩) (rcM_model E hP) rfl hl.1 rfl (Nat.le_of_ble_eq_true rfl) dX9_setup_64 ⟨Nat.le_refl _, Nat.le_refl _⟩ (fun H locs hP hS => ?_)
              obtain rfl := g_some hf
              exact g_ri X E hP hS dX9_setup_67
            · have hf := g_iff hf c18
              refine lv_aload_n hx hb dX9_setup_43 rfl (lv_at hl 0 rfl) ?_
              refine lv_iload hx hb dX9_setup_44 (lv_at hl 5 rfl) ?_
              obtain ⟨u21, h22, hf⟩ := g_bind hf
              refine g_vi (rest := []) X E hP hS (tcX9_isYards l G _ _ h22) (g_cwV X gX9_setup_X9_isYards rfl hdX9_isYards ⟨Nat.le_of_ble_eq_true rfl, Nat.le_of_ble_eq_true rfl⟩) (rcM_model E hP) rfl hl.1 rfl (Nat.le_of_ble_eq_true rfl) dX9_setup_46 ⟨Nat.le_refl _, Nat.le_refl _⟩ (fun H locs hP hS => ?_)
              refine lv_if_eq (tgt := 61) hx hb dX9_setup_49 (by decide) (fun c23 => ?_) (fun c23 => ?_)
              · have hf := g_ift hf c23
                refine lv_aload_n hx hb dX9_setup_61 rfl (lv_at hl 0 rfl) ?_
                refine lv_bipush (v := -6) hx hb dX9_setup_62 (by decide) ?_
                obtain ⟨u24, h25, hf⟩ := g_bind hf
                refine g_vi (rest := []) X E hP hS (tcX9_no l G _ _ h25) (g_cwV X gX9_setup_X9_no rfl hdX9_no ⟨Nat.le_of_ble_eq_true rfl, Nat.le_of_ble_eq_true rfl⟩) (rcM_model E hP) rfl hl.1 rfl (Nat.le_of_ble_eq_true rfl) dX9_setup_64 ⟨Nat.le_refl _, Nat.le_refl _⟩ (fun H locs hP hS => ?_)
                obtain rfl := g_some hf
                exact g_ri X E hP hS dX9_setup_67
              · have hf := g_iff hf c23
                refine lv_aload_n hx hb dX9_setup_52 rfl (lv_at hl 0 rfl) ?_
                refine lv_iload hx hb dX9_setup_53 (lv_at hl 6 rfl) ?_
                obtain ⟨u26, h27, hf⟩ := g_bind hf
                refine g_vi (rest := []) X E hP hS (tcX9_isYards l G _ _ h27) (g_cwV X gX9_setup_X9_isYards rfl hdX9_isYards ⟨Nat.le_of_ble_eq_true rfl, Nat.le_of_ble_eq_true rfl⟩) (rcM_model E hP) rfl hl.1 rfl (Nat.le_of_ble_eq_true rfl) dX9_setup_55 ⟨Nat.le_refl _, Nat.le_refl _⟩ (fun H locs hP hS => ?_)
                refine lv_if_ne (tgt := 68) hx hb dX9_setup_58 (by decide) (fun c28 => ?_) (fun c28 => ?_)
                · have hf := g_iff hf c28
                  refine lv_aload_n hx hb dX9_setup_68 rfl (lv_at hl 0 rfl) ?_
                  refine ggM_0 X E hP inX9_setup_X9 lkX9_setup_0 dX9_setup_69 ?_
                  refine lv_bipush (v := 16) hx hb dX9_setup_72 (by decide) ?_
                  refine lv_icmp_ne (tgt := 86) hx hb dX9_setup_74 (by decide) (fun c29 => ?_) (fun c29 => ?_)
                  · have hf := g_iff hf c29
                    refine lv_aload_n hx hb dX9_setup_86 rfl (lv_at hl 0 rfl) ?_
                    refine lv_iload_n hx hb dX9_setup_87 rfl (lv_at hl 1 rfl) ?_
                    refine lv_iload_n hx hb dX9_setup_88 rfl (lv_at hl 2 rfl) ?_
                    refine lv_iload_n hx hb dX9_setup_89 rfl (lv_at hl 3 rfl) ?_
                    refine lv_iload hx hb dX9_setup_90 (lv_at hl 4 rfl) ?_
                    refine lv_iload hx hb dX9_setup_92 (lv_at hl 5 rfl) ?_
                    refine lv_iload hx hb dX9_setup_94 (lv_at hl 6 rfl) ?_
                    obtain ⟨u30, h31, hf⟩ := g_bind hf
                    refine g_vi (rest := []) X E hP hS (tcX9_adds l G _ _ _ _ _ _ _ h31) (g_cwV X gX9_setup_X9_adds rfl hdX9_adds ⟨Nat.le_of_ble_eq_true rfl, Nat.le_of_ble_eq_true rfl⟩) (rcM_model E hP) rfl hl.1 rfl (Nat.le_of_ble_eq_true rfl) dX9_setup_96 ⟨Nat.le_refl _, Nat.le_refl _⟩ (fun H locs hP hS => ?_)
                    obtain rfl := g_some hf
                    exact g_ri X E hP hS dX9_setup_99
                  · have hf := g_ift hf c29
                    refine lv_aload_n hx hb dX9_setup_77 rfl (lv_at hl 0 rfl) ?_
                    refine lv_bipush (v := -7) hx hb dX9_setup_78 (by decide) ?_
                    obtain ⟨u32, h33, hf⟩ := g_bind hf
                    refine g_vi (rest := []) X E hP hS (tcX9_no l G _ _ h33) (g_cwV X gX9_setup_X9_no rfl hdX9_no ⟨Nat.le_of_ble_eq_true rfl, Nat.le_of_ble_eq_true rfl⟩) (rcM_model E hP) rfl hl.1 rfl (Nat.le_of_ble_eq_true rfl) dX9_setup_80 ⟨Nat.le_refl _, Nat.le_refl _⟩ (fun H locs hP hS => ?_)
                    refine lv_goto (tgt := 99) hx hb dX9_setup_83 (by decide) ?_
                    obtain rfl := g_some hf
                    exact g_ri X E hP hS dX9_setup_99
                · have hf := g_ift hf c28
                  refine lv_aload_n hx hb dX9_setup_61 rfl (lv_at hl 0 rfl) ?_
                  refine lv_bipush (v := -6) hx hb dX9_setup_62 (by decide) ?_
                  obtain ⟨u34, h35, hf⟩ := g_bind hf
                  refine g_vi (rest := []) X E hP hS (tcX9_no l G _ _ h35) (g_cwV X gX9_setup_X9_no rfl hdX9_no ⟨Nat.le_of_ble_eq_true rfl, Nat.le_of_ble_eq_true rfl⟩) (rcM_model E hP) rfl hl.1 rfl (Nat.le_of_ble_eq_true rfl) dX9_setup_64 ⟨Nat.le_refl _, Nat.le_refl _⟩ (fun H locs hP hS => ?_)
                  obtain rfl := g_some hf
                  exact g_ri X E hP hS dX9_setup_67
    · have hf := g_iff hf c4
      refine lv_aload_n hx hb dX9_setup_10 rfl (lv_at hl 0 rfl) ?_
      refine lv_iconst (v := -1) hx hb dX9_setup_11 (by decide) ?_
      obtain ⟨u36, h37, hf⟩ := g_bind hf
      refine g_vi (rest := []) X E hP hS (tcX9_no l G _ _ h37) (g_cwV X gX9_setup_X9_no rfl hdX9_no ⟨Nat.le_of_ble_eq_true rfl, Nat.le_of_ble_eq_true rfl⟩) (rcM_model E hP) rfl hl.1 rfl (Nat.le_of_ble_eq_true rfl) dX9_setup_12 ⟨Nat.le_refl _, Nat.le_refl _⟩ (fun H locs hP hS => ?_)
      obtain rfl := g_some hf
      exact g_ri X E hP hS dX9_setup_15
theorem lkX9_booked_0 : Cond.fieldLink RX9 32 RX9 "behind" "[I" ∈ wsX9_booked := by decide +kernel
theorem lkX9_booked_1 : Cond.fieldLink RX9 35 RX9 "ahead" "[I" ∈ wsX9_booked := by decide +kernel
theorem inX9_booked_X9 : ∀ w ∈ wsX90, w ∈ wsX9_booked := by decide +kernel
def fX9_booked (S : GS) (a1 : Int32) : Option Int32 :=
  if a1 < 0 ∨ 16 ≤ (a1).toNatClampNeg then none else
  if a1 < 0 ∨ 16 ≤ (a1).toNatClampNeg then none else
  some ((S.2.2.1 9 (a1).toNatClampNeg) - (S.2.2.1 10 (a1).toNatClampNeg))
set_option maxHeartbeats 4000000 in
set_option maxRecDepth 100000 in
theorem tcX9_booked (l : Launch) (G : GP) (S : GS) (a1 : Int32) {R : Int32} (hf : fX9_booked S a1 = some R) : CI l yX9_booked wsX9_booked 0 0 [.ref (ga G 63), .int a1] WM G S R S := by
  refine g_met RX9 (cc := cX9_booked) (nL := 2) (ret := (some .int)) (by decide) rfl rfl (Nat.le_of_ble_eq_true rfl) ?_
  intro p e s m below meth c ls X E hP hS hl
  have hl : lv_has ls 2 [(0, .ref (ga G 63)), (1, .int a1)] := hl
  obtain ⟨hx, hb, -, -, hown, hts, -⟩ := id X
  rw [fX9_booked] at hf
  refine lv_aload_n hx hb dX9_booked_0 rfl (lv_at hl 0 rfl) ?_
  refine ggM_9 X E hP inX9_booked_X9 lkX9_booked_0 dX9_booked_1 ?_
  refine lv_iload_n hx hb dX9_booked_4 rfl (lv_at hl 1 rfl) ?_
  obtain ⟨b1, hf⟩ := g_if hf
  refine giM_9 X E hP b1 dX9_booked_5 ?_
  refine lv_aload_n hx hb dX9_booked_6 rfl (lv_at hl 0 rfl) ?_
  refine ggM_10 X E hP inX9_booked_X9 lkX9_booked_1 dX9_booked_7 ?_
  refine lv_iload_n hx hb dX9_booked_10 rfl (lv_at hl 1 rfl) ?_
  obtain ⟨b2, hf⟩ := g_if hf
  refine giM_10 X E hP b2 dX9_booked_11 ?_
  refine lv_isub hx hb dX9_booked_12 ?_
  obtain rfl := g_some hf
  exact g_ri X E hP hS dX9_booked_13
def fX9_signed (S : GS) (a1 : Int32) (a2 : Int32) : Option Int32 :=
  if a2 ≤ 0 then
    if 0 ≤ a2 then
      some (0 : Int32)
    else
      some (-a1)
  else
    some a1
set_option maxHeartbeats 4000000 in
set_option maxRecDepth 100000 in
theorem tcX9_signed (l : Launch) (G : GP) (S : GS) (a1 : Int32) (a2 : Int32) {R : Int32} (hf : fX9_signed S a1 a2 = some R) : CI l yX9_signed wsX9_signed 0 0 [.ref (ga G 63), .int a1, .int a2] WM G S R S := by
  refine g_met RX9 (cc := cX9_signed) (nL := 3) (ret := (some .int)) (by decide) rfl rfl (Nat.le_of_ble_eq_true rfl) ?_
  intro p e s m below meth c ls X E hP hS hl
  have hl : lv_has ls 3 [(0, .ref (ga G 63)), (1, .int a1), (2, .int a2)] := hl
  obtain ⟨hx, hb, -, -, hown, hts, -⟩ := id X
  rw [fX9_signed] at hf
  refine lv_iload_n hx hb dX9_signed_0 rfl (lv_at hl 2 rfl) ?_
  refine lv_if_le (tgt := 8) hx hb dX9_signed_1 (by decide) (fun c1 => ?_) (fun c1 => ?_)
  · have hf := g_ift hf c1
    refine lv_iload_n hx hb dX9_signed_8 rfl (lv_at hl 2 rfl) ?_
    refine lv_if_ge (tgt := 17) hx hb dX9_signed_9 (by decide) (fun c2 => ?_) (fun c2 => ?_)
    · have hf := g_ift hf c2
      refine lv_iconst (v := 0) hx hb dX9_signed_17 (by decide) ?_
      obtain rfl := g_some hf
      exact g_ri X E hP hS dX9_signed_18
    · have hf := g_iff hf c2
      refine lv_iload_n hx hb dX9_signed_12 rfl (lv_at hl 1 rfl) ?_
      refine lv_ineg hx hb dX9_signed_13 ?_
      refine lv_goto (tgt := 18) hx hb dX9_signed_14 (by decide) ?_
      obtain rfl := g_some hf
      exact g_ri X E hP hS dX9_signed_18
  · have hf := g_iff hf c1
    refine lv_iload_n hx hb dX9_signed_4 rfl (lv_at hl 1 rfl) ?_
    refine lv_goto (tgt := 18) hx hb dX9_signed_5 (by decide) ?_
    obtain rfl := g_some hf
    exact g_ri X E hP hS dX9_signed_18
theorem lkX9_error_0 : Cond.fieldLink RX9 26 RX9 "kind" "[I" ∈ wsX9_error := by decide +kernel
theorem lkX9_error_1 : Cond.fieldLink RX9 7 RX9 "hair" "I" ∈ wsX9_error := by decide +kernel
theorem lkX9_error_2 : Cond.fieldLink RX9 38 RX9 "back" "[I" ∈ wsX9_error := by decide +kernel
theorem lkX9_error_3 : Cond.fieldLink RX9 41 RX9 "on" "[I" ∈ wsX9_error := by decide +kernel
theorem lkX9_error_4 : Cond.fieldLink RX9 47 RX9 "first" "[I" ∈ wsX9_error := by decide +kernel
theorem lkX9_error_5 : Cond.fieldLink RX9 29 RX9 "part" "[I" ∈ wsX9_error := by decide +kernel
theorem inX9_error_X9 : ∀ w ∈ wsX90, w ∈ wsX9_error := by decide +kernel
def fX9_error (S : GS) (a1 : Int32) : Option Int32 :=
  if a1 < 0 ∨ 16 ≤ (a1).toNatClampNeg then none else
  if (S.2.2.1 7 (a1).toNatClampNeg) = (1 : Int32) then
    if a1 < 0 ∨ 16 ≤ (a1).toNatClampNeg then none else
    if a1 < 0 ∨ 16 ≤ (a1).toNatClampNeg then none else
    some (((S.1 2) * ((S.2.2.1 11 (a1).toNatClampNeg) - (S.2.2.1 12 (a1).toNatClampNeg))) / (10 : Int32))
  else if (S.2.2.1 7 (a1).toNatClampNeg) = (2 : Int32) then
    if a1 < 0 ∨ 16 ≤ (a1).toNatClampNeg then none else
    if (S.2.2.1 14 (a1).toNatClampNeg) = (1 : Int32) then
      (fX9_sinks S a1).bind fun u10 =>
      some (-u10)
    else
      (fX9_sinks S a1).bind fun u8 =>
      some u8
  else if (S.2.2.1 7 (a1).toNatClampNeg) = (3 : Int32) then
    if a1 < 0 ∨ 16 ≤ (a1).toNatClampNeg then none else
    if a1 < 0 ∨ 16 ≤ (a1).toNatClampNeg then none else
    some ((2 : Int32) * (((S.1 2) * ((S.2.2.1 11 (a1).toNatClampNeg) - (S.2.2.1 12 (a1).toNatClampNeg))) / (10 : Int32)))
  else if (S.2.2.1 7 (a1).toNatClampNeg) = (4 : Int32) then
    if a1 < 0 ∨ 16 ≤ (a1).toNatClampNeg then none else
    (fX9_booked S a1).bind fun u17 =>
    (fX9_signed S (S.2.2.1 8 (a1).toNatClampNeg) u17).bind fun u19 =>
    some u19
  else if (S.2.2.1 7 (a1).toNatClampNeg) = (5 : Int32) then
    if a1 < 0 ∨ 16 ≤ (a1).toNatClampNeg then none else
    if (S.2.2.1 14 (a1).toNatClampNeg) = (1 : Int32) then
      (fX9_sinks S a1).bind fun u26 =>
      some (-u26)
    else
      (fX9_sinks S a1).bind fun u24 =>
      some u24
  else if (S.2.2.1 7 (a1).toNatClampNeg) = (6 : Int32) then
    if a1 < 0 ∨ 16 ≤ (a1).toNatClampNeg then none else
    if a1 < 0 ∨ 16 ≤ (a1).toNatClampNeg then none else
    if ((S.2.2.1 11 (a1).toNatClampNeg) + (S.2.2.1 12 (a1).toNatClampNeg)) < (100 : Int32) then
      if a1 < 0 ∨ 16 ≤ (a1).toNatClampNeg then none else
      (fX9_booked S a1).bind fun u33 =>
      (fX9_signed S (S.2.2.1 8 (a1).toNatClampNeg) u33).bind fun u35 =>
      some u35
    else
      if a1 < 0 ∨ 16 ≤ (a1).toNatClampNeg then none else
      (fX9_booked S a1).bind fun u38 =>
      (fX9_signed S ((S.2.2.1 8 (a1).toNatClampNeg) + (1 : Int32)) u38).bind fun u40 =>
      some u40
  else some (0 : Int32)
set_option maxHeartbeats 4000000 in
set_option maxRecDepth 100000 in
theorem tcX9_error (l : Launch) (G : GP) (S : GS) (a1 : Int32) {R : Int32} (hf : fX9_error S a1 = some R) : CI l yX9_error wsX9_error 1 22 [.ref (ga G 63), .int a1] WM G S R S := by
  refine g_met RX9 (cc := cX9_error) (nL := 2) (ret := (some .int)) (by decide) rfl rfl (Nat.le_of_ble_eq_true rfl) ?_
  intro p e s m below meth c ls X E hP hS hl
  have hl : lv_has ls 2 [(0, .ref (ga G 63)), (1, .int a1)] := hl
  obtain ⟨hx, hb, -, -, hown, hts, -⟩ := id X
  rw [fX9_error] at hf
  refine lv_aload_n hx hb dX9_error_0 rfl (lv_at hl 0 rfl) ?_
  refine ggM_7 X E hP inX9_error_X9 lkX9_error_0 dX9_error_1 ?_
  refine lv_iload_n hx hb dX9_error_4 rfl (lv_at hl 1 rfl) ?_
  obtain ⟨b1, hf⟩ := g_if hf
  refine giM_7 X E hP b1 dX9_error_5 ?_
  by_cases c2 : (S.2.2.1 7 (a1).toNatClampNeg) = (1 : Int32)
  · have hf := g_ift hf c2
    refine g_tin (k := (1 : Int32)) (off := 38) (tgt := 44) hx hb dX9_error_6 c2 (by decide) ?_
    refine lv_aload_n hx hb dX9_error_44 rfl (lv_at hl 0 rfl) ?_
    refine ggM_2 X E hP inX9_error_X9 lkX9_error_1 dX9_error_45 ?_
    refine lv_aload_n hx hb dX9_error_48 rfl (lv_at hl 0 rfl) ?_
    refine ggM_11 X E hP inX9_error_X9 lkX9_error_2 dX9_error_49 ?_
    refine lv_iload_n hx hb dX9_error_52 rfl (lv_at hl 1 rfl) ?_
    obtain ⟨b3, hf⟩ := g_if hf
    refine giM_11 X E hP b3 dX9_error_53 ?_
    refine lv_aload_n hx hb dX9_error_54 rfl (lv_at hl 0 rfl) ?_
    refine ggM_12 X E hP inX9_error_X9 lkX9_error_3 dX9_error_55 ?_
    refine lv_iload_n hx hb dX9_error_58 rfl (lv_at hl 1 rfl) ?_
    obtain ⟨b4, hf⟩ := g_if hf
    refine giM_12 X E hP b4 dX9_error_59 ?_
    refine lv_isub hx hb dX9_error_60 ?_
    refine lv_imul hx hb dX9_error_61 ?_
    refine lv_bipush (v := 10) hx hb dX9_error_62 (by decide) ?_
    refine lv_idiv hx hb dX9_error_64 (by decide) ?_
    obtain rfl := g_some hf
    exact g_ri X E hP hS dX9_error_65
  have hf := g_iff hf c2
  by_cases c5 : (S.2.2.1 7 (a1).toNatClampNeg) = (2 : Int32)
  · have hf := g_ift hf c5
    refine g_tin (k := (2 : Int32)) (off := 84) (tgt := 90) hx hb dX9_error_6 c5 (by decide) ?_
    refine lv_aload_n hx hb dX9_error_90 rfl (lv_at hl 0 rfl) ?_
    refine ggM_14 X E hP inX9_error_X9 lkX9_error_4 dX9_error_91 ?_
    refine lv_iload_n hx hb dX9_error_94 rfl (lv_at hl 1 rfl) ?_
    obtain ⟨b6, hf⟩ := g_if hf
    refine giM_14 X E hP b6 dX9_error_95 ?_
    refine lv_iconst (v := 1) hx hb dX9_error_96 (by decide) ?_
    refine lv_icmp_ne (tgt := 109) hx hb dX9_error_97 (by decide) (fun c7 => ?_) (fun c7 => ?_)
    · have hf := g_iff hf c7
      refine lv_aload_n hx hb dX9_error_109 rfl (lv_at hl 0 rfl) ?_
      refine lv_iload_n hx hb dX9_error_110 rfl (lv_at hl 1 rfl) ?_
      obtain ⟨u8, h9, hf⟩ := g_bind hf
      refine g_vi (rest := []) X E hP hS (tcX9_sinks l G _ _ h9) (g_cwV X gX9_error_X9_sinks rfl hdX9_sinks ⟨Nat.le_of_ble_eq_true rfl, Nat.le_of_ble_eq_true rfl⟩) (rcM_model E hP) rfl hl.1 rfl (Nat.le_of_ble_eq_true rfl) dX9_error_111 ⟨Nat.le_refl _, Nat.le_refl _⟩ (fun H locs hP hS => ?_)
      obtain rfl := g_some hf
      exact g_ri X E hP hS dX9_error_114
    · have hf := g_ift hf c7
      refine lv_aload_n hx hb dX9_error_100 rfl (lv_at hl 0 rfl) ?_
      refine lv_iload_n hx hb dX9_error_101 rfl (lv_at hl 1 rfl) ?_
      obtain ⟨u10, h11, hf⟩ := g_bind hf
      refine g_vi (rest := []) X E hP hS (tcX9_sinks l G _ _ h11) (g_cwV X gX9_error_X9_sinks rfl hdX9_sinks ⟨Nat.le_of_ble_eq_true rfl, Nat.le_of_ble_eq_true rfl⟩) (rcM_model E hP) rfl hl.1 rfl (Nat.le_of_ble_eq_true rfl) dX9_error_102 ⟨Nat.le_refl _, Nat.le_refl _⟩ (fun H locs hP hS => ?_)
      refine lv_ineg hx hb dX9_error_105 ?_
      refine lv_goto (tgt := 114) hx hb dX9_error_106 (by decide) ?_
      obtain rfl := g_some hf
      exact g_ri X E hP hS dX9_error_114
  have hf := g_iff hf c5
  by_cases c12 : (S.2.2.1 7 (a1).toNatClampNeg) = (3 : Int32)
  · have hf := g_ift hf c12
    refine g_tin (k := (3 : Int32)) (off := 60) (tgt := 66) hx hb dX9_error_6 c12 (by decide) ?_
    refine lv_iconst (v := 2) hx hb dX9_error_66 (by decide) ?_
    refine lv_aload_n hx hb dX9_error_67 rfl (lv_at hl 0 rfl) ?_
    refine ggM_2 X E hP inX9_error_X9 lkX9_error_1 dX9_error_68 ?_
    refine lv_aload_n hx hb dX9_error_71 rfl (lv_at hl 0 rfl) ?_
    refine ggM_11 X E hP inX9_error_X9 lkX9_error_2 dX9_error_72 ?_
    refine lv_iload_n hx hb dX9_error_75 rfl (lv_at hl 1 rfl) ?_
    obtain ⟨b13, hf⟩ := g_if hf
    refine giM_11 X E hP b13 dX9_error_76 ?_
    refine lv_aload_n hx hb dX9_error_77 rfl (lv_at hl 0 rfl) ?_
    refine ggM_12 X E hP inX9_error_X9 lkX9_error_3 dX9_error_78 ?_
    refine lv_iload_n hx hb dX9_error_81 rfl (lv_at hl 1 rfl) ?_
    obtain ⟨b14, hf⟩ := g_if hf
    refine giM_12 X E hP b14 dX9_error_82 ?_
    refine lv_isub hx hb dX9_error_83 ?_
    refine lv_imul hx hb dX9_error_84 ?_
    refine lv_bipush (v := 10) hx hb dX9_error_85 (by decide) ?_
    refine lv_idiv hx hb dX9_error_87 (by decide) ?_
    refine lv_imul hx hb dX9_error_88 ?_
    obtain rfl := g_some hf
    exact g_ri X E hP hS dX9_error_89
  have hf := g_iff hf c12
  by_cases c15 : (S.2.2.1 7 (a1).toNatClampNeg) = (4 : Int32)
  · have hf := g_ift hf c15
    refine g_tin (k := (4 : Int32)) (off := 109) (tgt := 115) hx hb dX9_error_6 c15 (by decide) ?_
    refine lv_aload_n hx hb dX9_error_115 rfl (lv_at hl 0 rfl) ?_
    refine lv_aload_n hx hb dX9_error_116 rfl (lv_at hl 0 rfl) ?_
    refine ggM_8 X E hP inX9_error_X9 lkX9_error_5 dX9_error_117 ?_
    refine lv_iload_n hx hb dX9_error_120 rfl (lv_at hl 1 rfl) ?_
    obtain ⟨b16, hf⟩ := g_if hf
    refine giM_8 X E hP b16 dX9_error_121 ?_
    refine lv_aload_n hx hb dX9_error_122 rfl (lv_at hl 0 rfl) ?_
    refine lv_iload_n hx hb dX9_error_123 rfl (lv_at hl 1 rfl) ?_
    obtain ⟨u17, h18, hf⟩ := g_bind hf
    refine g_vi (rest := [.int (S.2.2.1 8 (a1).toNatClampNeg), .ref (ga G 63)]) X E hP hS (tcX9_booked l G _ _ h18) (g_cwV X gX9_error_X9_booked rfl hdX9_booked ⟨Nat.le_of_ble_eq_true rfl, Nat.le_of_ble_eq_true rfl⟩) (rcM_model E hP) rfl hl.1 rfl (Nat.le_of_ble_eq_true rfl) dX9_error_124 ⟨Nat.le_refl _, Nat.le_refl _⟩ (fun H locs hP hS => ?_)
    obtain ⟨u19, h20, hf⟩ := g_bind hf
    refine g_vi (rest := []) X E hP hS (tcX9_signed l G _ _ _ h20) (g_cwV X gX9_error_X9_signed rfl hdX9_signed ⟨Nat.le_of_ble_eq_true rfl, Nat.le_of_ble_eq_true rfl⟩) (rcM_model E hP) rfl hl.1 rfl (Nat.le_of_ble_eq_true rfl) dX9_error_127 ⟨Nat.le_refl _, Nat.le_refl _⟩ (fun H locs hP hS => ?_)
    obtain rfl := g_some hf
    exact g_ri X E hP hS dX9_error_130
  have hf := g_iff hf c15
  by_cases c21 : (S.2.2.1 7 (a1).toNatClampNeg) = (5 : Int32)
  · have hf := g_ift hf c21
    refine g_tin (k := (5 : Int32)) (off := 84) (tgt := 90) hx hb dX9_error_6 c21 (by decide) ?_
    refine lv_aload_n hx hb dX9_error_90 rfl (lv_at hl 0 rfl) ?_
    refine ggM_14 X E hP inX9_error_X9 lkX9_error_4 dX9_error_91 ?_
    refine lv_iload_n hx hb dX9_error_94 rfl (lv_at hl 1 rfl) ?_
    obtain ⟨b22, hf⟩ := g_if hf
    refine giM_14 X E hP b22 dX9_error_95 ?_
    refine lv_iconst (v := 1) hx hb dX9_error_96 (by decide) ?_
    refine lv_icmp_ne (tgt := 109) hx hb dX9_error_97 (by decide) (fun c23 => ?_) (fun c23 => ?_)
    · have hf := g_iff hf c23
      refine lv_aload_n hx hb dX9_error_109 rfl (lv_at hl 0 rfl) ?_
      refine lv_iload_n hx hb dX9_error_110 rfl (lv_at hl 1 rfl) ?_
      obtain ⟨u24, h25, hf⟩ := g_bind hf
      refine g_vi (rest := []) X E hP hS (tcX9_sinks l G _ _ h25) (g_cwV X gX9_error_X9_sinks rfl hdX9_sinks ⟨Nat.le_of_ble_eq_true rfl, Nat.le_of_ble_eq_true rfl⟩) (rcM_model E hP) rfl hl.1 rfl (Nat.le_of_ble_eq_true rfl) dX9_error_111 ⟨Nat.le_refl _, Nat.le_refl _⟩ (fun H locs hP hS => ?_)
      obtain rfl := g_some hf
      exact g_ri X E hP hS dX9_error_114
    · have hf := g_ift hf c23
      refine lv_aload_n hx hb dX9_error_100 rfl (lv_at hl 0 rfl) ?_
      refine lv_iload_n hx hb dX9_error_101 rfl (lv_at hl 1 rfl) ?_
      obtain ⟨u26, h27, hf⟩ := g_bind hf
      refine g_vi (rest := []) X E hP hS (tcX9_sinks l G _ _ h27) (g_cwV X gX9_error_X9_sinks rfl hdX9_sinks ⟨Nat.le_of_ble_eq_true rfl, Nat.le_of_ble_eq_true rfl⟩) (rcM_model E hP) rfl hl.1 rfl (Nat.le_of_ble_eq_true rfl) dX9_error_102 ⟨Nat.le_refl _, Nat.le_refl _⟩ (fun H locs hP hS => ?_)
      refine lv_ineg hx hb dX9_error_105 ?_
      refine lv_goto (tgt := 114) hx hb dX9_error_106 (by decide) ?_
      obtain rfl := g_some hf
      exact g_ri X E hP hS dX9_error_114
  have hf := g_iff hf c21
  by_cases c28 : (S.2.2.1 7 (a1).toNatClampNeg) = (6 : Int32)
  · have hf := g_ift hf c28
    refine g_tin (k := (6 : Int32)) (off := 125) (tgt := 131) hx hb dX9_error_6 c28 (by decide) ?_
    refine lv_aload_n hx hb dX9_error_131 rfl (lv_at hl 0 rfl) ?_
    refine lv_aload_n hx hb dX9_error_132 rfl (lv_at hl 0 rfl) ?_
    refine ggM_11 X E hP inX9_error_X9 lkX9_error_2 dX9_error_133 ?_
    refine lv_iload_n hx hb dX9_error_136 rfl (lv_at hl 1 rfl) ?_
    obtain ⟨b29, hf⟩ := g_if hf
    refine giM_11 X E hP b29 dX9_error_137 ?_
    refine lv_aload_n hx hb dX9_error_138 rfl (lv_at hl 0 rfl) ?_
    refine ggM_12 X E hP inX9_error_X9 lkX9_error_3 dX9_error_139 ?_
    refine lv_iload_n hx hb dX9_error_142 rfl (lv_at hl 1 rfl) ?_
    obtain ⟨b30, hf⟩ := g_if hf
    refine giM_12 X E hP b30 dX9_error_143 ?_
    refine lv_iadd hx hb dX9_error_144 ?_
    refine lv_bipush (v := 100) hx hb dX9_error_145 (by decide) ?_
    refine lv_icmp_lt (tgt := 161) hx hb dX9_error_147 (by decide) (fun c31 => ?_) (fun c31 => ?_)
    · have hf := g_ift hf c31
      refine lv_aload_n hx hb dX9_error_161 rfl (lv_at hl 0 rfl) ?_
      refine ggM_8 X E hP inX9_error_X9 lkX9_error_5 dX9_error_162 ?_
      refine lv_iload_n hx hb dX9_error_165 rfl (lv_at hl 1 rfl) ?_
      obtain ⟨b32, hf⟩ := g_if hf
      refine giM_8 X E hP b32 dX9_error_166 ?_
      refine lv_aload_n hx hb dX9_error_167 rfl (lv_at hl 0 rfl) ?_
      refine lv_iload_n hx hb dX9_error_168 rfl (lv_at hl 1 rfl) ?_
      obtain ⟨u33, h34, hf⟩ := g_bind hf
      refine g_vi (rest := [.int (S.2.2.1 8 (a1).toNatClampNeg), .ref (ga G 63)]) X E hP hS (tcX9_booked l G _ _ h34) (g_cwV X gX9_error_X9_booked rfl hdX9_booked ⟨Nat.le_of_ble_eq_true rfl, Nat.le_of_ble_eq_true rfl⟩) (rcM_model E hP) rfl hl.1 rfl (Nat.le_of_ble_eq_true rfl) dX9_error_169 ⟨Nat.le_refl _, Nat.le_refl _⟩ (fun H locs hP hS => ?_)
      obtain ⟨u35, h36, hf⟩ := g_bind hf
      refine g_vi (rest := []) X E hP hS (tcX9_signed l G _ _ _ h36) (g_cwV X gX9_error_X9_signed rfl hdX9_signed ⟨Nat.le_of_ble_eq_true rfl, Nat.le_of_ble_eq_true rfl⟩) (rcM_model E hP) rfl hl.1 rfl (Nat.le_of_ble_eq_true rfl) dX9_error_172 ⟨Nat.le_refl _, Nat.le_refl _⟩ (fun H locs hP hS => ?_)
      obtain rfl := g_some hf
      exact g_ri X E hP hS dX9_error_175
    · have hf := g_iff hf c31
      refine lv_aload_n hx hb dX9_error_150 rfl (lv_at hl 0 rfl) ?_
      refine ggM_8 X E hP inX9_error_X9 lkX9_error_5 dX9_error_151 ?_
      refine lv_iload_n hx hb dX9_error_154 rfl (lv_at hl 1 rfl) ?_
      obtain ⟨b37, hf⟩ := g_if hf
      refine giM_8 X E hP b37 dX9_error_155 ?_
      refine lv_iconst (v := 1) hx hb dX9_error_156 (by decide) ?_
      refine lv_iadd hx hb dX9_error_157 ?_
      refine lv_goto (tgt := 167) hx hb dX9_error_158 (by decide) ?_
      refine lv_aload_n hx hb dX9_error_167 rfl (lv_at hl 0 rfl) ?_
      refine lv_iload_n hx hb dX9_error_168 rfl (lv_at hl 1 rfl) ?_
      obtain ⟨u38, h39, hf⟩ := g_bind hf
      refine g_vi (rest := [.int ((S.2.2.1 8 (a1).toNatClampNeg) + (1 : Int32)), .ref (ga G 63)]) X E hP hS (tcX9_booked l G _ _ h39) (g_cwV X gX9_error_X9_booked rfl hdX9_booked ⟨Nat.le_of_ble_eq_true rfl, Nat.le_of_ble_eq_true rfl⟩) (rcM_model E hP) rfl hl.1 rfl (Nat.le_of_ble_eq_true rfl) dX9_error_169 ⟨Nat.le_refl _, Nat.le_refl _⟩ (fun H locs hP hS => ?_)
      obtain ⟨u40, h41, hf⟩ := g_bind hf
      refine g_vi (rest := []) X E hP hS (tcX9_signed l G _ _ _ h41) (g_cwV X gX9_error_X9_signed rfl hdX9_signed ⟨Nat.le_of_ble_eq_true rfl, Nat.le_of_ble_eq_true rfl⟩) (rcM_model E hP) rfl hl.1 rfl (Nat.le_of_ble_eq_true rfl) dX9_error_172 ⟨Nat.le_refl _, Nat.le_refl _⟩ (fun H locs hP hS => ?_)
      obtain rfl := g_some hf
      exact g_ri X E hP hS dX9_error_175
  have hf := g_iff hf c28
  refine lv_tableOut (tgt := 176) hx hb dX9_error_6 (by have e0 := lv_neT (a := 1) c2 (by decide); have e1 := lv_neT (a := 2) c5 (by decide); have e2 := lv_neT (a := 3) c12 (by decide); have e3 := lv_neT (a := 4) c15 (by decide); have e4 := lv_neT (a := 5) c21 (by decide); have e5 := lv_neT (a := 6) c28 (by decide); omega) (by decide) ?_
  refine lv_iconst (v := 0) hx hb dX9_error_176 (by decide) ?_
  obtain rfl := g_some hf
  exact g_ri X E hP hS dX9_error_177
def fX9_rise (S : GS) (a1 : Int32) : Option Int32 :=
  (fX9_booked S a1).bind fun u1 =>
  (fX9_error S a1).bind fun u3 =>
  some (u1 - u3)
set_option maxHeartbeats 4000000 in
set_option maxRecDepth 100000 in
theorem tcX9_rise (l : Launch) (G : GP) (S : GS) (a1 : Int32) {R : Int32} (hf : fX9_rise S a1 = some R) : CI l yX9_rise wsX9_rise 2 43 [.ref (ga G 63), .int a1] WM G S R S := by
  refine g_met RX9 (cc := cX9_rise) (nL := 2) (ret := (some .int)) (by decide) rfl rfl (Nat.le_of_ble_eq_true rfl) ?_
  intro p e s m below meth c ls X E hP hS hl
  have hl : lv_has ls 2 [(0, .ref (ga G 63)), (1, .int a1)] := hl
  obtain ⟨hx, hb, -, -, hown, hts, -⟩ := id X
  rw [fX9_rise] at hf
  refine lv_aload_n hx hb dX9_rise_0 rfl (lv_at hl 0 rfl) ?_
  refine lv_iload_n hx hb dX9_rise_1 rfl (lv_at hl 1 rfl) ?_
  obtain ⟨u1, h2, hf⟩ := g_bind hf
  refine g_vi (rest := []) X E hP hS (tcX9_booked l G _ _ h2) (g_cwV X gX9_rise_X9_booked rfl hdX9_booked ⟨Nat.le_of_ble_eq_true rfl, Nat.le_of_ble_eq_true rfl⟩) (rcM_model E hP) rfl hl.1 rfl (Nat.le_of_ble_eq_true rfl) dX9_rise_2 ⟨Nat.le_refl _, Nat.le_refl _⟩ (fun H locs hP hS => ?_)
  refine lv_aload_n hx hb dX9_rise_5 rfl (lv_at hl 0 rfl) ?_
  refine lv_iload_n hx hb dX9_rise_6 rfl (lv_at hl 1 rfl) ?_
  obtain ⟨u3, h4, hf⟩ := g_bind hf
  refine g_vi (rest := [.int u1]) X E hP hS (tcX9_error l G _ _ h4) (g_cwV X gX9_rise_X9_error rfl hdX9_error ⟨Nat.le_of_ble_eq_true rfl, Nat.le_of_ble_eq_true rfl⟩) (rcM_model E hP) rfl hl.1 rfl (Nat.le_of_ble_eq_true rfl) dX9_rise_7 ⟨Nat.le_refl _, Nat.le_refl _⟩ (fun H locs hP hS => ?_)
  refine lv_isub hx hb dX9_rise_10 ?_
  obtain rfl := g_some hf
  exact g_ri X E hP hS dX9_rise_11
theorem lkX9_setupOf_0 : Cond.fieldLink RX9 26 RX9 "kind" "[I" ∈ wsX9_setupOf := by decide +kernel
theorem lkX9_setupOf_1 : Cond.fieldLink RX9 29 RX9 "part" "[I" ∈ wsX9_setupOf := by decide +kernel
theorem lkX9_setupOf_2 : Cond.fieldLink RX9 32 RX9 "behind" "[I" ∈ wsX9_setupOf := by decide +kernel
theorem lkX9_setupOf_3 : Cond.fieldLink RX9 35 RX9 "ahead" "[I" ∈ wsX9_setupOf := by decide +kernel
theorem lkX9_setupOf_4 : Cond.fieldLink RX9 38 RX9 "back" "[I" ∈ wsX9_setupOf := by decide +kernel
theorem lkX9_setupOf_5 : Cond.fieldLink RX9 41 RX9 "on" "[I" ∈ wsX9_setupOf := by decide +kernel
theorem lkX9_setupOf_6 : Cond.fieldLink RX9 44 RX9 "holder" "[I" ∈ wsX9_setupOf := by decide +kernel
theorem lkX9_setupOf_7 : Cond.fieldLink RX9 47 RX9 "first" "[I" ∈ wsX9_setupOf := by decide +kernel
theorem inX9_setupOf_X9 : ∀ w ∈ wsX90, w ∈ wsX9_setupOf := by decide +kernel
def fX9_setupOf (S : GS) (a1 : Int32) (a2 : Int32) : Option (Int32 × GS) :=
  (fX9_isSetup S a1).bind fun u1 =>
  if u1 = 0 then
    (fX9_noFar S (-5 : Int32)).bind fun u31 =>
    some (u31.1, u31.2)
  else
    if a2 = (0 : Int32) then
      if a1 < 0 ∨ 16 ≤ (a1).toNatClampNeg then none else
      some ((S.2.2.1 7 (a1).toNatClampNeg), S)
    else if a2 = (1 : Int32) then
      if a1 < 0 ∨ 16 ≤ (a1).toNatClampNeg then none else
      some ((S.2.2.1 8 (a1).toNatClampNeg), S)
    else if a2 = (2 : Int32) then
      if a1 < 0 ∨ 16 ≤ (a1).toNatClampNeg then none else
      some ((S.2.2.1 9 (a1).toNatClampNeg), S)
    else if a2 = (3 : Int32) then
      if a1 < 0 ∨ 16 ≤ (a1).toNatClampNeg then none else
      some ((S.2.2.1 10 (a1).toNatClampNeg), S)
    else if a2 = (4 : Int32) then
      if a1 < 0 ∨ 16 ≤ (a1).toNatClampNeg then none else
      some ((S.2.2.1 11 (a1).toNatClampNeg), S)
    else if a2 = (5 : Int32) then
      if a1 < 0 ∨ 16 ≤ (a1).toNatClampNeg then none else
      some ((S.2.2.1 12 (a1).toNatClampNeg), S)
    else if a2 = (6 : Int32) then
      if a1 < 0 ∨ 16 ≤ (a1).toNatClampNeg then none else
      some ((S.2.2.1 13 (a1).toNatClampNeg), S)
    else if a2 = (7 : Int32) then
      if a1 < 0 ∨ 16 ≤ (a1).toNatClampNeg then none else
      some ((S.2.2.1 14 (a1).toNatClampNeg), S)
    else if a2 = (8 : Int32) then
      (fX9_booked S a1).bind fun u21 =>
      some (u21, S)
    else if a2 = (9 : Int32) then
      (fX9_error S a1).bind fun u24 =>
      some (u24, S)
    else if a2 = (10 : Int32) then
      (fX9_rise S a1).bind fun u27 =>
      some (u27, S)
    else (fX9_noFar S (-5 : Int32)).bind fun u29 =>
    some (u29.1, u29.2)
set_option maxHeartbeats 4000000 in
set_option maxRecDepth 100000 in
theorem tcX9_setupOf (l : Launch) (G : GP) (S : GS) (a1 : Int32) (a2 : Int32) {R : (Int32 × GS)} (hf : fX9_setupOf S a1 a2 = some R) : CI l yX9_setupOf wsX9_setupOf 3 64 [.ref (ga G 63), .int a1, .int a2] WM G S R.1 R.2 := by
  refine g_met RX9 (cc := cX9_setupOf) (nL := 3) (ret := (some .int)) (by decide) rfl rfl (Nat.le_of_ble_eq_true rfl) ?_
  intro p e s m below meth c ls X E hP hS hl
  have hl : lv_has ls 3 [(0, .ref (ga G 63)), (1, .int a1), (2, .int a2)] := hl
  obtain ⟨hx, hb, -, -, hown, hts, -⟩ := id X
  rw [fX9_setupOf] at hf
  refine lv_aload_n hx hb dX9_setupOf_0 rfl (lv_at hl 0 rfl) ?_
  refine lv_iload_n hx hb dX9_setupOf_1 rfl (lv_at hl 1 rfl) ?_
  obtain ⟨u1, h2, hf⟩ := g_bind hf
  refine g_vi (rest := []) X E hP hS (tcX9_isSetup l G _ _ h2) (g_cwV X gX9_setupOf_X9_isSetup rfl hdX9_isSetup ⟨Nat.le_of_ble_eq_true rfl, Nat.le_of_ble_eq_true rfl⟩) (rcM_model E hP) rfl hl.1 rfl (Nat.le_of_ble_eq_true rfl) dX9_setupOf_2 ⟨Nat.le_refl _, Nat.le_refl _⟩ (fun H locs hP hS => ?_)
  refine lv_if_ne (tgt := 15) hx hb dX9_setupOf_5 (by decide) (fun c3 => ?_) (fun c3 => ?_)
  · have hf := g_iff hf c3
    refine lv_iload_n hx hb dX9_setupOf_15 rfl (lv_at hl 2 rfl) ?_
    by_cases c4 : a2 = (0 : Int32)
    · have hf := g_ift hf c4
      refine g_tin (k := (0 : Int32)) (off := 60) (tgt := 76) hx hb dX9_setupOf_16 c4 (by decide) ?_
      refine lv_aload_n hx hb dX9_setupOf_76 rfl (lv_at hl 0 rfl) ?_
      refine ggM_7 X E hP inX9_setupOf_X9 lkX9_setupOf_0 dX9_setupOf_77 ?_
      refine lv_iload_n hx hb dX9_setupOf_80 rfl (lv_at hl 1 rfl) ?_
      obtain ⟨b5, hf⟩ := g_if hf
      refine giM_7 X E hP b5 dX9_setupOf_81 ?_
      obtain rfl := g_some hf
      exact g_ri X E hP hS dX9_setupOf_82
    have hf := g_iff hf c4
    by_cases c6 : a2 = (1 : Int32)
    · have hf := g_ift hf c6
      refine g_tin (k := (1 : Int32)) (off := 67) (tgt := 83) hx hb dX9_setupOf_16 c6 (by decide) ?_
      refine lv_aload_n hx hb dX9_setupOf_83 rfl (lv_at hl 0 rfl) ?_
      refine ggM_8 X E hP inX9_setupOf_X9 lkX9_setupOf_1 dX9_setupOf_84 ?_
      refine lv_iload_n hx hb dX9_setupOf_87 rfl (lv_at hl 1 rfl) ?_
      obtain ⟨b7, hf⟩ := g_if hf
      refine giM_8 X E hP b7 dX9_setupOf_88 ?_
      obtain rfl := g_some hf
      exact g_ri X E hP hS dX9_setupOf_89
    have hf := g_iff hf c6
    by_cases c8 : a2 = (2 : Int32)
    · have hf := g_ift hf c8
      refine g_tin (k := (2 : Int32)) (off := 74) (tgt := 90) hx hb dX9_setupOf_16 c8 (by decide) ?_
      refine lv_aload_n hx hb dX9_setupOf_90 rfl (lv_at hl 0 rfl) ?_
      refine ggM_9 X E hP inX9_setupOf_X9 lkX9_setupOf_2 dX9_setupOf_91 ?_
      refine lv_iload_n hx hb dX9_setupOf_94 rfl (lv_at hl 1 rfl) ?_
      obtain ⟨b9, hf⟩ := g_if hf
      refine giM_9 X E hP b9 dX9_setupOf_95 ?_
      obtain rfl := g_some hf
      exact g_ri X E hP hS dX9_setupOf_96
    have hf := g_iff hf c8
    by_cases c10 : a2 = (3 : Int32)
    · have hf := g_ift hf c10
      refine g_tin (k := (3 : Int32)) (off := 81) (tgt := 97) hx hb dX9_setupOf_16 c10 (by decide) ?_
      refine lv_aload_n hx hb dX9_setupOf_97 rfl (lv_at hl 0 rfl) ?_
      refine ggM_10 X E hP inX9_setupOf_X9 lkX9_setupOf_3 dX9_setupOf_98 ?_
      refine lv_iload_n hx hb dX9_setupOf_101 rfl (lv_at hl 1 rfl) ?_
      obtain ⟨b11, hf⟩ := g_if hf
      refine giM_10 X E hP b11 dX9_setupOf_102 ?_
      obtain rfl := g_some hf
      exact g_ri X E hP hS dX9_setupOf_103
    have hf := g_iff hf c10
    by_cases c12 : a2 = (4 : Int32)
    · have hf := g_ift hf c12
      refine g_tin (k := (4 : Int32)) (off := 88) (tgt := 104) hx hb dX9_setupOf_16 c12 (by decide) ?_
      refine lv_aload_n hx hb dX9_setupOf_104 rfl (lv_at hl 0 rfl) ?_
      refine ggM_11 X E hP inX9_setupOf_X9 lkX9_setupOf_4 dX9_setupOf_105 ?_
      refine lv_iload_n hx hb dX9_setupOf_108 rfl (lv_at hl 1 rfl) ?_
      obtain ⟨b13, hf⟩ := g_if hf
      refine giM_11 X E hP b13 dX9_setupOf_109 ?_
      obtain rfl := g_some hf
      exact g_ri X E hP hS dX9_setupOf_110
    have hf := g_iff hf c12
    by_cases c14 : a2 = (5 : Int32)
    · have hf := g_ift hf c14
      refine g_tin (k := (5 : Int32)) (off := 95) (tgt := 111) hx hb dX9_setupOf_16 c14 (by decide) ?_
      refine lv_aload_n hx hb dX9_setupOf_111 rfl (lv_at hl 0 rfl) ?_
      refine ggM_12 X E hP inX9_setupOf_X9 lkX9_setupOf_5 dX9_setupOf_112 ?_
      refine lv_iload_n hx hb dX9_setupOf_115 rfl (lv_at hl 1 rfl) ?_
      obtain ⟨b15, hf⟩ := g_if hf
      refine giM_12 X E hP b15 dX9_setupOf_116 ?_
      obtain rfl := g_some hf
      exact g_ri X E hP hS dX9_setupOf_117
    have hf := g_iff hf c14
    by_cases c16 : a2 = (6 : Int32)
    · have hf := g_ift hf c16
      refine g_tin (k := (6 : Int32)) (off := 102) (tgt := 118) hx hb dX9_setupOf_16 c16 (by decide) ?_
      refine lv_aload_n hx hb dX9_setupOf_118 rfl (lv_at hl 0 rfl) ?_
      refine ggM_13 X E hP inX9_setupOf_X9 lkX9_setupOf_6 dX9_setupOf_119 ?_
      refine lv_iload_n hx hb dX9_setupOf_122 rfl (lv_at hl 1 rfl) ?_
      obtain ⟨b17, hf⟩ := g_if hf
      refine giM_13 X E hP b17 dX9_setupOf_123 ?_
      obtain rfl := g_some hf
      exact g_ri X E hP hS dX9_setupOf_124
    have hf := g_iff hf c16
    by_cases c18 : a2 = (7 : Int32)
    · have hf := g_ift hf c18
      refine g_tin (k := (7 : Int32)) (off := 109) (tgt := 125) hx hb dX9_setupOf_16 c18 (by decide) ?_
      refine lv_aload_n hx hb dX9_setupOf_125 rfl (lv_at hl 0 rfl) ?_
      refine ggM_14 X E hP inX9_setupOf_X9 lkX9_setupOf_7 dX9_setupOf_126 ?_
      refine lv_iload_n hx hb dX9_setupOf_129 rfl (lv_at hl 1 rfl) ?_
      obtain ⟨b19, hf⟩ := g_if hf
      refine giM_14 X E hP b19 dX9_setupOf_130 ?_
      obtain rfl := g_some hf
      exact g_ri X E hP hS dX9_setupOf_131
    have hf := g_iff hf c18
    by_cases c20 : a2 = (8 : Int32)
    · have hf := g_ift hf c20
      refine g_tin (k := (8 : Int32)) (off := 116) (tgt := 132) hx hb dX9_setupOf_16 c20 (by decide) ?_
      refine lv_aload_n hx hb dX9_setupOf_132 rfl (lv_at hl 0 rfl) ?_
      refine lv_iload_n hx hb dX9_setupOf_133 rfl (lv_at hl 1 rfl) ?_
      obtain ⟨u21, h22, hf⟩ := g_bind hf
      refine g_vi (rest := []) X E hP hS (tcX9_booked l G _ _ h22) (g_cwV X gX9_setupOf_X9_booked rfl hdX9_booked ⟨Nat.le_of_ble_eq_true rfl, Nat.le_of_ble_eq_true rfl⟩) (rcM_model E hP) rfl hl.1 rfl (Nat.le_of_ble_eq_true rfl) dX9_setupOf_134 ⟨Nat.le_refl _, Nat.le_refl _⟩ (fun H locs hP hS => ?_)
      obtain rfl := g_some hf
      exact g_ri X E hP hS dX9_setupOf_137
    have hf := g_iff hf c20
    by_cases c23 : a2 = (9 : Int32)
    · have hf := g_ift hf c23
      refine g_tin (k := (9 : Int32)) (off := 122) (tgt := 138) hx hb dX9_setupOf_16 c23 (by decide) ?_
      refine lv_aload_n hx hb dX9_setupOf_138 rfl (lv_at hl 0 rfl) ?_
      refine lv_iload_n hx hb dX9_setupOf_139 rfl (lv_at hl 1 rfl) ?_
      obtain ⟨u24, h25, hf⟩ := g_bind hf
      refine g_vi (rest := []) X E hP hS (tcX9_error l G _ _ h25) (g_cwV X gX9_setupOf_X9_error rfl hdX9_error ⟨Nat.le_of_ble_eq_true rfl, Nat.le_of_ble_eq_true rfl⟩) (rcM_model E hP) rfl hl.1 rfl (Nat.le_of_ble_eq_true rfl) dX9_setupOf_140 ⟨Nat.le_refl _, Nat.le_refl _⟩ (fun H locs hP hS => ?_)
      obtain rfl := g_some hf
      exact g_ri X E hP hS dX9_setupOf_143
    have hf := g_iff hf c23
    by_cases c26 : a2 = (10 : Int32)
    · have hf := g_ift hf c26
      refine g_tin (k := (10 : Int32)) (off := 128) (tgt := 144) hx hb dX9_setupOf_16 c26 (by decide) ?_
      refine lv_aload_n hx hb dX9_setupOf_144 rfl (lv_at hl 0 rfl) ?_
      refine lv_iload_n hx hb dX9_setupOf_145 rfl (lv_at hl 1 rfl) ?_
      obtain ⟨u27, h28, hf⟩ := g_bind hf
      refine g_vi (rest := []) X E hP hS (tcX9_rise l G _ _ h28) (g_cwV X gX9_setupOf_X9_rise rfl hdX9_rise ⟨Nat.le_of_ble_eq_true rfl, Nat.le_of_ble_eq_true rfl⟩) (rcM_model E hP) rfl hl.1 rfl (Nat.le_of_ble_eq_true rfl) dX9_setupOf_146 ⟨Nat.le_refl _, Nat.le_refl _⟩ (fun H locs hP hS => ?_)
      obtain rfl := g_some hf
      exact g_ri X E hP hS dX9_setupOf_149
    have hf := g_iff hf c26
    refine lv_tableOut (tgt := 150) hx hb dX9_setupOf_16 (by have e0 := lv_neT (a := 0) c4 (by decide); have e1 := lv_neT (a := 1) c6 (by decide); have e2 := lv_neT (a := 2) c8 (by decide); have e3 := lv_neT (a := 3) c10 (by decide); have e4 := lv_neT (a := 4) c12 (by decide); have e5 := lv_neT (a := 5) c14 (by decide); have e6 := lv_neT (a := 6) c16 (by decide); have e7 := lv_neT (a := 7) c18 (by decide); have e8 := lv_neT (a := 8) c20 (by decide); have e9 := lv_neT (a := 9) c23 (by decide); have e10 := lv_neT (a := 10) c26 (by decide); omega) (by decide) ?_
    refine lv_aload_n hx hb dX9_setupOf_150 rfl (lv_at hl 0 rfl) ?_
    refine lv_bipush (v := -5) hx hb dX9_setupOf_151 (by decide) ?_
    obtain ⟨u29, h30, hf⟩ := g_bind hf
    refine g_vi (rest := []) X E hP hS (tcX9_noFar l G _ _ h30) (g_cwV X gX9_setupOf_X9_noFar rfl hdX9_noFar ⟨Nat.le_of_ble_eq_true rfl, Nat.le_of_ble_eq_true rfl⟩) (rcM_model E hP) rfl hl.1 rfl (Nat.le_of_ble_eq_true rfl) dX9_setupOf_153 ⟨Nat.le_refl _, Nat.le_refl _⟩ (fun H locs hP hS => ?_)
    obtain rfl := g_some hf
    exact g_ri X E hP hS dX9_setupOf_156
  · have hf := g_ift hf c3
    refine lv_aload_n hx hb dX9_setupOf_8 rfl (lv_at hl 0 rfl) ?_
    refine lv_bipush (v := -5) hx hb dX9_setupOf_9 (by decide) ?_
    obtain ⟨u31, h32, hf⟩ := g_bind hf
    refine g_vi (rest := []) X E hP hS (tcX9_noFar l G _ _ h32) (g_cwV X gX9_setupOf_X9_noFar rfl hdX9_noFar ⟨Nat.le_of_ble_eq_true rfl, Nat.le_of_ble_eq_true rfl⟩) (rcM_model E hP) rfl hl.1 rfl (Nat.le_of_ble_eq_true rfl) dX9_setupOf_11 ⟨Nat.le_refl _, Nat.le_refl _⟩ (fun H locs hP hS => ?_)
    obtain rfl := g_some hf
    exact g_ri X E hP hS dX9_setupOf_14
def fX9_isTold (S : GS) (a1 : Int32) (a2 : Int32) : Option Int32 :=
  if (2 : Int32) ≤ a1 then
    if a2 < 0 then
      some (0 : Int32)
    else
      if a1 = (2 : Int32) then
        if (3 : Int32) < a2 then
          some (0 : Int32)
        else
          some (1 : Int32)
      else
        if (1 : Int32) < a2 then
          some (0 : Int32)
        else
          some (1 : Int32)
  else
    (fX9_isReading S a2).bind fun u6 =>
    if ¬ (u6 = 0 ∨ u6 = 1) then none else
    some u6
set_option maxHeartbeats 4000000 in
set_option maxRecDepth 100000 in
theorem tcX9_isTold (l : Launch) (G : GP) (S : GS) (a1 : Int32) (a2 : Int32) {R : Int32} (hf : fX9_isTold S a1 a2 = some R) : CI l yX9_isTold wsX9_isTold 1 21 [.ref (ga G 63), .int a1, .int a2] WM G S R S := by
  refine g_met RX9 (cc := cX9_isTold) (nL := 3) (ret := (some .boolean)) (by decide) rfl rfl (Nat.le_of_ble_eq_true rfl) ?_
  intro p e s m below meth c ls X E hP hS hl
  have hl : lv_has ls 3 [(0, .ref (ga G 63)), (1, .int a1), (2, .int a2)] := hl
  obtain ⟨hx, hb, -, -, hown, hts, -⟩ := id X
  rw [fX9_isTold] at hf
  refine lv_iload_n hx hb dX9_isTold_0 rfl (lv_at hl 1 rfl) ?_
  refine lv_iconst (v := 2) hx hb dX9_isTold_1 (by decide) ?_
  refine lv_icmp_ge (tgt := 13) hx hb dX9_isTold_2 (by decide) (fun c1 => ?_) (fun c1 => ?_)
  · have hf := g_ift hf c1
    refine lv_iload_n hx hb dX9_isTold_13 rfl (lv_at hl 2 rfl) ?_
    refine lv_if_lt (tgt := 35) hx hb dX9_isTold_14 (by decide) (fun c2 => ?_) (fun c2 => ?_)
    · have hf := g_ift hf c2
      refine lv_iconst (v := 0) hx hb dX9_isTold_35 (by decide) ?_
      obtain rfl := g_some hf
      exact g_rz (v := (0 : Int32)) X E hP hS rfl dX9_isTold_36
    · have hf := g_iff hf c2
      refine lv_iload_n hx hb dX9_isTold_17 rfl (lv_at hl 2 rfl) ?_
      refine lv_iload_n hx hb dX9_isTold_18 rfl (lv_at hl 1 rfl) ?_
      refine lv_iconst (v := 2) hx hb dX9_isTold_19 (by decide) ?_
      refine lv_icmp_ne (tgt := 27) hx hb dX9_isTold_20 (by decide) (fun c3 => ?_) (fun c3 => ?_)
      · have hf := g_iff hf c3
        refine lv_iconst (v := 1) hx hb dX9_isTold_27 (by decide) ?_
        refine lv_icmp_gt (tgt := 35) hx hb dX9_isTold_28 (by decide) (fun c4 => ?_) (fun c4 => ?_)
        · have hf := g_ift hf c4
          refine lv_iconst (v := 0) hx hb dX9_isTold_35 (by decide) ?_
          obtain rfl := g_some hf
          exact g_rz (v := (0 : Int32)) X E hP hS rfl dX9_isTold_36
        · have hf := g_iff hf c4
          refine lv_iconst (v := 1) hx hb dX9_isTold_31 (by decide) ?_
          refine lv_goto (tgt := 36) hx hb dX9_isTold_32 (by decide) ?_
          obtain rfl := g_some hf
          exact g_rz (v := (1 : Int32)) X E hP hS rfl dX9_isTold_36
      · have hf := g_ift hf c3
        refine lv_iconst (v := 3) hx hb dX9_isTold_23 (by decide) ?_
        refine lv_goto (tgt := 28) hx hb dX9_isTold_24 (by decide) ?_
        refine lv_icmp_gt (tgt := 35) hx hb dX9_isTold_28 (by decide) (fun c5 => ?_) (fun c5 => ?_)
        · have hf := g_ift hf c5
          refine lv_iconst (v := 0) hx hb dX9_isTold_35 (by decide) ?_
          obtain rfl := g_some hf
          exact g_rz (v := (0 : Int32)) X E hP hS rfl dX9_isTold_36
        · have hf := g_iff hf c5
          refine lv_iconst (v := 1) hx hb dX9_isTold_31 (by decide) ?_
          refine lv_goto (tgt := 36) hx hb dX9_isTold_32 (by decide) ?_
          obtain rfl := g_some hf
          exact g_rz (v := (1 : Int32)) X E hP hS rfl dX9_isTold_36
  · have hf := g_iff hf c1
    refine lv_aload_n hx hb dX9_isTold_5 rfl (lv_at hl 0 rfl) ?_
    refine lv_iload_n hx hb dX9_isTold_6 rfl (lv_at hl 2 rfl) ?_
    obtain ⟨u6, h7, hf⟩ := g_bind hf
    refine g_vi (rest := []) X E hP hS (tcX9_isReading l G _ _ h7) (g_cwV X gX9_isTold_X9_isReading rfl hdX9_isReading ⟨Nat.le_of_ble_eq_true rfl, Nat.le_of_ble_eq_true rfl⟩) (rcM_model E hP) rfl hl.1 rfl (Nat.le_of_ble_eq_true rfl) dX9_isTold_7 ⟨Nat.le_refl _, Nat.le_refl _⟩ (fun H locs hP hS => ?_)
    refine lv_goto (tgt := 36) hx hb dX9_isTold_10 (by decide) ?_
    obtain ⟨z8, hf⟩ := g_if hf
    obtain rfl := g_some hf
    exact g_rz (v := u6) X E hP hS (g_bool z8) dX9_isTold_36
theorem lkX9_tell_0 : Cond.fieldLink RX9 47 RX9 "first" "[I" ∈ wsX9_tell := by decide +kernel
theorem lkX9_tell_1 : Cond.fieldLink RX9 32 RX9 "behind" "[I" ∈ wsX9_tell := by decide +kernel
theorem lkX9_tell_2 : Cond.fieldLink RX9 35 RX9 "ahead" "[I" ∈ wsX9_tell := by decide +kernel
theorem lkX9_tell_3 : Cond.fieldLink RX9 44 RX9 "holder" "[I" ∈ wsX9_tell := by decide +kernel
theorem inX9_tell_X9 : ∀ w ∈ wsX90, w ∈ wsX9_tell := by decide +kernel
def fX9_tell (S : GS) (a1 : Int32) (a2 : Int32) (a3 : Int32) : Option (Int32 × GS) :=
  (fX9_isSetup S a1).bind fun u1 =>
  if u1 = 0 then
    (fX9_no S (-1 : Int32)).bind fun u50 =>
    some (u50.1, u50.2)
  else
    if a2 < 0 then
      (fX9_no S (-6 : Int32)).bind fun u5 =>
      some (u5.1, u5.2)
    else
      if (3 : Int32) < a2 then
        (fX9_no S (-6 : Int32)).bind fun u8 =>
        some (u8.1, u8.2)
      else
        (fX9_isTold S a2 a3).bind fun u10 =>
        if u10 = 0 then
          (fX9_no S (-6 : Int32)).bind fun u48 =>
          some (u48.1, u48.2)
        else
          if a2 = 0 then
            if a1 < 0 ∨ 16 ≤ (a1).toNatClampNeg then none else
            if a2 = (0 : Int32) then
              if a1 < 0 ∨ 16 ≤ (a1).toNatClampNeg then none else
              some ((S.2.2.1 9 (a1).toNatClampNeg), (gU3 S 9 (a1).toNatClampNeg a3))
            else if a2 = (1 : Int32) then
              if a1 < 0 ∨ 16 ≤ (a1).toNatClampNeg then none else
              some ((S.2.2.1 9 (a1).toNatClampNeg), (gU3 S 10 (a1).toNatClampNeg a3))
            else if a2 = (2 : Int32) then
              if a1 < 0 ∨ 16 ≤ (a1).toNatClampNeg then none else
              some ((S.2.2.1 9 (a1).toNatClampNeg), (gU3 S 13 (a1).toNatClampNeg a3))
            else if a1 < 0 ∨ 16 ≤ (a1).toNatClampNeg then none else
            some ((S.2.2.1 9 (a1).toNatClampNeg), (gU3 S 14 (a1).toNatClampNeg a3))
          else
            if a2 = (1 : Int32) then
              if a1 < 0 ∨ 16 ≤ (a1).toNatClampNeg then none else
              if a2 = (0 : Int32) then
                if a1 < 0 ∨ 16 ≤ (a1).toNatClampNeg then none else
                some ((S.2.2.1 10 (a1).toNatClampNeg), (gU3 S 9 (a1).toNatClampNeg a3))
              else if a2 = (1 : Int32) then
                if a1 < 0 ∨ 16 ≤ (a1).toNatClampNeg then none else
                some ((S.2.2.1 10 (a1).toNatClampNeg), (gU3 S 10 (a1).toNatClampNeg a3))
              else if a2 = (2 : Int32) then
                if a1 < 0 ∨ 16 ≤ (a1).toNatClampNeg then none else
                some ((S.2.2.1 10 (a1).toNatClampNeg), (gU3 S 13 (a1).toNatClampNeg a3))
              else if a1 < 0 ∨ 16 ≤ (a1).toNatClampNeg then none else
              some ((S.2.2.1 10 (a1).toNatClampNeg), (gU3 S 14 (a1).toNatClampNeg a3))
            else
              if a2 = (2 : Int32) then
                if a1 < 0 ∨ 16 ≤ (a1).toNatClampNeg then none else
                if a2 = (0 : Int32) then
                  if a1 < 0 ∨ 16 ≤ (a1).toNatClampNeg then none else
                  some ((S.2.2.1 13 (a1).toNatClampNeg), (gU3 S 9 (a1).toNatClampNeg a3))
                else if a2 = (1 : Int32) then
                  if a1 < 0 ∨ 16 ≤ (a1).toNatClampNeg then none else
                  some ((S.2.2.1 13 (a1).toNatClampNeg), (gU3 S 10 (a1).toNatClampNeg a3))
                else if a2 = (2 : Int32) then
                  if a1 < 0 ∨ 16 ≤ (a1).toNatClampNeg then none else
                  some ((S.2.2.1 13 (a1).toNatClampNeg), (gU3 S 13 (a1).toNatClampNeg a3))
                else if a1 < 0 ∨ 16 ≤ (a1).toNatClampNeg then none else
                some ((S.2.2.1 13 (a1).toNatClampNeg), (gU3 S 14 (a1).toNatClampNeg a3))
              else
                if a1 < 0 ∨ 16 ≤ (a1).toNatClampNeg then none else
                if a2 = (0 : Int32) then
                  if a1 < 0 ∨ 16 ≤ (a1).toNatClampNeg then none else
                  some ((S.2.2.1 14 (a1).toNatClampNeg), (gU3 S 9 (a1).toNatClampNeg a3))
                else if a2 = (1 : Int32) then
                  if a1 < 0 ∨ 16 ≤ (a1).toNatClampNeg then none else
                  some ((S.2.2.1 14 (a1).toNatClampNeg), (gU3 S 10 (a1).toNatClampNeg a3))
                else if a2 = (2 : Int32) then
                  if a1 < 0 ∨ 16 ≤ (a1).toNatClampNeg then none else
                  some ((S.2.2.1 14 (a1).toNatClampNeg), (gU3 S 13 (a1).toNatClampNeg a3))
                else if a1 < 0 ∨ 16 ≤ (a1).toNatClampNeg then none else
                some ((S.2.2.1 14 (a1).toNatClampNeg), (gU3 S 14 (a1).toNatClampNeg a3))
set_option maxHeartbeats 4000000 in
set_option maxRecDepth 100000 in
theorem tcX9_tell (l : Launch) (G : GP) (S : GS) (a1 : Int32) (a2 : Int32) (a3 : Int32) {R : (Int32 × GS)} (hf : fX9_tell S a1 a2 a3 = some R) : CI l yX9_tell wsX9_tell 2 43 [.ref (ga G 63), .int a1, .int a2, .int a3] WM G S R.1 R.2 := by
  refine g_met RX9 (cc := cX9_tell) (nL := 5) (ret := (some .int)) (by decide) rfl rfl (Nat.le_of_ble_eq_true rfl) ?_
  intro p e s m below meth c ls X E hP hS hl
  have hl : lv_has ls 5 [(0, .ref (ga G 63)), (1, .int a1), (2, .int a2), (3, .int a3)] := hl
  obtain ⟨hx, hb, -, -, hown, hts, -⟩ := id X
  rw [fX9_tell] at hf
  refine lv_aload_n hx hb dX9_tell_0 rfl (lv_at hl 0 rfl) ?_
  refine lv_iload_n hx hb dX9_tell_1 rfl (lv_at hl 1 rfl) ?_
  obtain ⟨u1, h2, hf⟩ := g_bind hf
  refine g_vi (rest := []) X E hP hS (tcX9_isSetup l G _ _ h2) (g_cwV X gX9_tell_X9_isSetup rfl hdX9_isSetup ⟨Nat.le_of_ble_eq_true rfl, Nat.le_of_ble_eq_true rfl⟩) (rcM_model E hP) rfl hl.1 rfl (Nat.le_of_ble_eq_true rfl) dX9_tell_2 ⟨Nat.le_refl _, Nat.le_refl _⟩ (fun H locs hP hS => ?_)
  refine lv_if_ne (tgt := 14) hx hb dX9_tell_5 (by decide) (fun c3 => ?_) (fun c3 => ?_)
  · have hf := g_iff hf c3
    refine lv_iload_n hx hb dX9_tell_14 rfl (lv_at hl 2 rfl) ?_
    refine lv_if_lt (tgt := 32) hx hb dX9_tell_15 (by decide) (fun c4 => ?_) (fun c4 => ?_)
    · have hf := g_ift hf c4
      refine lv_aload_n hx hb dX9_tell_32 rfl (lv_at hl 0 rfl) ?_
      refine lv_bipush (v := -6) hx hb dX9_tell_33 (by decide) ?_
      obtain ⟨u5, h6, hf⟩ := g_bind hf
      refine g_vi (rest := []) X E hP hS (tcX9_no l G _ _ h6) (g_cwV X gX9_tell_X9_no rfl hdX9_no ⟨Nat.le_of_ble_eq_true rfl, Nat.le_of_ble_eq_true rfl⟩) (rcM_model E hP) rfl hl.1 rfl (Nat.le_of_ble_eq_true rfl) dX9_tell_35 ⟨Nat.le_refl _, Nat.le_refl _⟩ (fun H locs hP hS => ?_)
      obtain rfl := g_some hf
      exact g_ri X E hP hS dX9_tell_38
    · have hf := g_iff hf c4
      refine lv_iload_n hx hb dX9_tell_18 rfl (lv_at hl 2 rfl) ?_
      refine lv_iconst (v := 3) hx hb dX9_tell_19 (by decide) ?_
      refine lv_icmp_gt (tgt := 32) hx hb dX9_tell_20 (by decide) (fun c7 => ?_) (fun c7 => ?_)
      · have hf := g_ift hf c7
        refine lv_aload_n hx hb dX9_tell_32 rfl (lv_at hl 0 rfl) ?_
        refine lv_bipush (v := -6) hx hb dX9_tell_33 (by decide) ?_
        obtain ⟨u8, h9, hf⟩ := g_bind hf
        refine g_vi (rest := []) X E hP hS (tcX9_no l G _ _ h9) (g_cwV X gX9_tell_X9_no rfl hdX9_no ⟨Nat.le_of_ble_eq_true rfl, Nat.le_of_ble_eq_true rfl⟩) (rcM_model E hP) rfl hl.1 rfl (Nat.le_of_ble_eq_true rfl) dX9_tell_35 ⟨Nat.le_refl _, Nat.le_refl _⟩ (fun H locs hP hS => ?_)
        obtain rfl := g_some hf
        exact g_ri X E hP hS dX9_tell_38
      · have hf := g_iff hf c7
        refine lv_aload_n hx hb dX9_tell_23 rfl (lv_at hl 0 rfl) ?_
        refine lv_iload_n hx hb dX9_tell_24 rfl (lv_at hl 2 rfl) ?_
        refine lv_iload_n hx hb dX9_tell_25 rfl (lv_at hl 3 rfl) ?_
        obtain ⟨u10, h11, hf⟩ := g_bind hf
        refine g_vi (rest := []) X E hP hS (tcX9_isTold l G _ _ _ h11) (g_cwV X gX9_tell_X9_isTold rfl hdX9_isTold ⟨Nat.le_of_ble_eq_true rfl, Nat.le_of_ble_eq_true rfl⟩) (rcM_model E hP) rfl hl.1 rfl (Nat.le_of_ble_eq_true rfl) dX9_tell_26 ⟨Nat.le_refl _, Nat.le_refl _⟩ (fun H locs hP hS => ?_)
        refine lv_if_ne (tgt := 39) hx hb dX9_tell_29 (by decide) (fun c12 => ?_) (fun c12 => ?_)
        · have hf := g_iff hf c12
          refine lv_iload_n hx hb dX9_tell_39 rfl (lv_at hl 2 rfl) ?_
          refine lv_if_ne (tgt := 52) hx hb dX9_tell_40 (by decide) (fun c13 => ?_) (fun c13 => ?_)
          · have hf := g_iff hf c13
            refine lv_iload_n hx hb dX9_tell_52 rfl (lv_at hl 2 rfl) ?_
            refine lv_iconst (v := 1) hx hb dX9_tell_53 (by decide) ?_
            refine lv_icmp_ne (tgt := 66) hx hb dX9_tell_54 (by decide) (fun c14 => ?_) (fun c14 => ?_)
            · have hf := g_iff hf c14
              refine lv_iload_n hx hb dX9_tell_66 rfl (lv_at hl 2 rfl) ?_
              refine lv_iconst (v := 2) hx hb dX9_tell_67 (by decide) ?_
              refine lv_icmp_ne (tgt := 80) hx hb dX9_tell_68 (by decide) (fun c15 => ?_) (fun c15 => ?_)
              · have hf := g_iff hf c15
                refine lv_aload_n hx hb dX9_tell_80 rfl (lv_at hl 0 rfl) ?_
                refine ggM_14 X E hP inX9_tell_X9 lkX9_tell_0 dX9_tell_81 ?_
                refine lv_iload_n hx hb dX9_tell_84 rfl (lv_at hl 1 rfl) ?_
                obtain ⟨b16, hf⟩ := g_if hf
                refine giM_14 X E hP b16 dX9_tell_85 ?_
                refine lv_istore (lv' := [(4, .int (S.2.2.1 14 (a1).toNatClampNeg)), (0, .ref (ga G 63)), (1, .int a1), (2, .int a2), (3, .int a3)]) hx hb dX9_tell_86 hl (by decide) rfl (fun ls hl => ?_)
                refine lv_iload_n hx hb dX9_tell_88 rfl (lv_at hl 3 rfl) ?_
                by_cases c17 : a2 = (0 : Int32)
                · have hf := g_ift hf c17
                  refine g_tin (k := (0 : Int32)) (off := 27) (tgt := 116) hx hb dX9_tell_89 c17 (by decide) ?_
                  refine lv_aload_n hx hb dX9_tell_116 rfl (lv_at hl 1 rfl) ?_
                  refine ggM_9 X E hP inX9_tell_X9 lkX9_tell_1 dX9_tell_117 ?_
                  refine lv_iload_n hx hb dX9_tell_120 rfl (lv_at hl 2 rfl) ?_
                  refine lv_iload_n hx hb dX9_tell_121 rfl (lv_at hl 4 rfl) ?_
                  obtain ⟨b18, hf⟩ := g_if hf
                  refine gsM_9 X E hP hS b18 dX9_tell_122 (fun H locs hP hS => ?_)
                  refine lv_goto (tgt := 153) hx hb dX9_tell_123 (by decide) ?_
                  refine lv_iload hx hb dX9_tell_153 (lv_at hl 0 rfl) ?_
                  obtain rfl := g_some hf
                  exact g_ri X E hP hS dX9_tell_155
                have hf := g_iff hf c17
                by_cases c19 : a2 = (1 : Int32)
                · have hf := g_ift hf c19
                  refine g_tin (k := (1 : Int32)) (off := 37) (tgt := 126) hx hb dX9_tell_89 c19 (by decide) ?_
                  refine lv_aload_n hx hb dX9_tell_126 rfl (lv_at hl 1 rfl) ?_
                  refine ggM_10 X E hP inX9_tell_X9 lkX9_tell_2 dX9_tell_127 ?_
                  refine lv_iload_n hx hb dX9_tell_130 rfl (lv_at hl 2 rfl) ?_
                  refine lv_iload_n hx hb dX9_tell_131 rfl (lv_at hl 4 rfl) ?_
                  obtain ⟨b20, hf⟩ := g_if hf
                  refine gsM_10 X E hP hS b20 dX9_tell_132 (fun H locs hP hS => ?_)
                  refine lv_goto (tgt := 153) hx hb dX9_tell_133 (by decide) ?_
                  refine lv_iload hx hb dX9_tell_153 (lv_at hl 0 rfl) ?_
                  obtain rfl := g_some hf
                  exact g_ri X E hP hS dX9_tell_155
                have hf := g_iff hf c19
                by_cases c21 : a2 = (2 : Int32)
                · have hf := g_ift hf c21
                  refine g_tin (k := (2 : Int32)) (off := 47) (tgt := 136) hx hb dX9_tell_89 c21 (by decide) ?_
                  refine lv_aload_n hx hb dX9_tell_136 rfl (lv_at hl 1 rfl) ?_
                  refine ggM_13 X E hP inX9_tell_X9 lkX9_tell_3 dX9_tell_137 ?_
                  refine lv_iload_n hx hb dX9_tell_140 rfl (lv_at hl 2 rfl) ?_
                  refine lv_iload_n hx hb dX9_tell_141 rfl (lv_at hl 4 rfl) ?_
                  obtain ⟨b22, hf⟩ := g_if hf
                  refine gsM_13 X E hP hS b22 dX9_tell_142 (fun H locs hP hS => ?_)
                  refine lv_goto (tgt := 153) hx hb dX9_tell_143 (by decide) ?_
                  refine lv_iload hx hb dX9_tell_153 (lv_at hl 0 rfl) ?_
                  obtain rfl := g_some hf
                  exact g_ri X E hP hS dX9_tell_155
                have hf := g_iff hf c21
                refine lv_tableOut (tgt := 146) hx hb dX9_tell_89 (by have e0 := lv_neT (a := 0) c17 (by decide); have e1 := lv_neT (a := 1) c19 (by decide); have e2 := lv_neT (a := 2) c21 (by decide); omega) (by decide) ?_
                refine lv_aload_n hx hb dX9_tell_146 rfl (lv_at hl 1 rfl) ?_
                refine ggM_14 X E hP inX9_tell_X9 lkX9_tell_0 dX9_tell_147 ?_
                refine lv_iload_n hx hb dX9_tell_150 rfl (lv_at hl 2 rfl) ?_
                refine lv_iload_n hx hb dX9_tell_151 rfl (lv_at hl 4 rfl) ?_
                obtain ⟨b23, hf⟩ := g_if hf
                refine gsM_14 X E hP hS b23 dX9_tell_152 (fun H locs hP hS => ?_)
                refine lv_iload hx hb dX9_tell_153 (lv_at hl 0 rfl) ?_
                obtain rfl := g_some hf
                exact g_ri X E hP hS dX9_tell_155
              · have hf := g_ift hf c15
                refine lv_aload_n hx hb dX9_tell_71 rfl (lv_at hl 0 rfl) ?_
                refine ggM_13 X E hP inX9_tell_X9 lkX9_tell_3 dX9_tell_72 ?_
                refine lv_iload_n hx hb dX9_tell_75 rfl (lv_at hl 1 rfl) ?_
                obtain ⟨b24, hf⟩ := g_if hf
                refine giM_13 X E hP b24 dX9_tell_76 ?_
                refine lv_goto (tgt := 86) hx hb dX9_tell_77 (by decide) ?_
                refine lv_istore (lv' := [(4, .int (S.2.2.1 13 (a1).toNatClampNeg)), (0, .ref (ga G 63)), (1, .int a1), (2, .int a2), (3, .int a3)]) hx hb dX9_tell_86 hl (by decide) rfl (fun ls hl => ?_)
                refine lv_iload_n hx hb dX9_tell_88 rfl (lv_at hl 3 rfl) ?_
                by_cases c25 : a2 = (0 : Int32)
                · have hf := g_ift hf c25
                  refine g_tin (k := (0 : Int32)) (off := 27) (tgt := 116) hx hb dX9_tell_89 c25 (by decide) ?_
                  refine lv_aload_n hx hb dX9_tell_116 rfl (lv_at hl 1 rfl) ?_
                  refine ggM_9 X E hP inX9_tell_X9 lkX9_tell_1 dX9_tell_117 ?_
                  refine lv_iload_n hx hb dX9_tell_120 rfl (lv_at hl 2 rfl) ?_
                  refine lv_iload_n hx hb dX9_tell_121 rfl (lv_at hl 4 rfl) ?_
                  obtain ⟨b26, hf⟩ := g_if hf
                  refine gsM_9 X E hP hS b26 dX9_tell_122 (fun H locs hP hS => ?_)
                  refine lv_goto (tgt := 153) hx hb dX9_tell_123 (by decide) ?_
                  refine lv_iload hx hb dX9_tell_153 (lv_at hl 0 rfl) ?_
                  obtain rfl := g_some hf
                  exact g_ri X E hP hS dX9_tell_155
                have hf := g_iff hf c25
                by_cases c27 : a2 = (1 : Int32)
                · have hf := g_ift hf c27
                  refine g_tin (k := (1 : Int32)) (off := 37) (tgt := 126) hx hb dX9_tell_89 c27 (by decide) ?_
                  refine lv_aload_n hx hb dX9_tell_126 rfl (lv_at hl 1 rfl) ?_
                  refine ggM_10 X E hP inX9_tell_X9 lkX9_tell_2 dX9_tell_127 ?_
                  refine lv_iload_n hx hb dX9_tell_130 rfl (lv_at hl 2 rfl) ?_
                  refine lv_iload_n hx hb dX9_tell_131 rfl (lv_at hl 4 rfl) ?_
                  obtain ⟨b28, hf⟩ := g_if hf
                  refine gsM_10 X E hP hS b28 dX9_tell_132 (fun H locs hP hS => ?_)
                  refine lv_goto (tgt := 153) hx hb dX9_tell_133 (by decide) ?_
                  refine lv_iload hx hb dX9_tell_153 (lv_at hl 0 rfl) ?_
                  obtain rfl := g_some hf
                  exact g_ri X E hP hS dX9_tell_155
                have hf := g_iff hf c27
                by_cases c29 : a2 = (2 : Int32)
                · have hf := g_ift hf c29
                  refine g_tin (k := (2 : Int32)) (off := 47) (tgt := 136) hx hb dX9_tell_89 c29 (by decide) ?_
                  refine lv_aload_n hx hb dX9_tell_136 rfl (lv_at hl 1 rfl) ?_
                  refine ggM_13 X E hP inX9_tell_X9 lkX9_tell_3 dX9_tell_137 ?_
                  refine lv_iload_n hx hb dX9_tell_140 rfl (lv_at hl 2 rfl) ?_
                  refine lv_iload_n hx hb dX9_tell_141 rfl (lv_at hl 4 rfl) ?_
                  obtain ⟨b30, hf⟩ := g_if hf
                  refine gsM_13 X E hP hS b30 dX9_tell_142 (fun H locs hP hS => ?_)
                  refine lv_goto (tgt := 153) hx hb dX9_tell_143 (by decide) ?_
                  refine lv_iload hx hb dX9_tell_153 (lv_at hl 0 rfl) ?_
                  obtain rfl := g_some hf
                  exact g_ri X E hP hS dX9_tell_155
                have hf := g_iff hf c29
                refine lv_tableOut (tgt := 146) hx hb dX9_tell_89 (by have e0 := lv_neT (a := 0) c25 (by decide); have e1 := lv_neT (a := 1) c27 (by decide); have e2 := lv_neT (a := 2) c29 (by decide); omega) (by decide) ?_
                refine lv_aload_n hx hb dX9_tell_146 rfl (lv_at hl 1 rfl) ?_
                refine ggM_14 X E hP inX9_tell_X9 lkX9_tell_0 dX9_tell_147 ?_
                refine lv_iload_n hx hb dX9_tell_150 rfl (lv_at hl 2 rfl) ?_
                refine lv_iload_n hx hb dX9_tell_151 rfl (lv_at hl 4 rfl) ?_
                obtain ⟨b31, hf⟩ := g_if hf
                refine gsM_14 X E hP hS b31 dX9_tell_152 (fun H locs hP hS => ?_)
                refine lv_iload hx hb dX9_tell_153 (lv_at hl 0 rfl) ?_
                obtain rfl := g_some hf
                exact g_ri X E hP hS dX9_tell_155
            · have hf := g_ift hf c14
              refine lv_aload_n hx hb dX9_tell_57 rfl (lv_at hl 0 rfl) ?_
              refine ggM_10 X E hP inX9_tell_X9 lkX9_tell_2 dX9_tell_58 ?_
              refine lv_iload_n hx hb dX9_tell_61 rfl (lv_at hl 1 rfl) ?_
              obtain ⟨b32, hf⟩ := g_if hf
              refine giM_10 X E hP b32 dX9_tell_62 ?_
              refine lv_goto (tgt := 86) hx hb dX9_tell_63 (by decide) ?_
              refine lv_istore (lv' := [(4, .int (S.2.2.1 10 (a1).toNatClampNeg)), (0, .ref (ga G 63)), (1, .int a1), (2, .int a2), (3, .int a3)]) hx hb dX9_tell_86 hl (by decide) rfl (fun ls hl => ?_)
              refine lv_iload_n hx hb dX9_tell_88 rfl (lv_at hl 3 rfl) ?_
              by_cases c33 : a2 = (0 : Int32)
              · have hf := g_ift hf c33
                refine g_tin (k := (0 : Int32)) (off := 27) (tgt := 116) hx hb dX9_tell_89 c33 (by decide) ?_
                refine lv_aload_n hx hb dX9_tell_116 rfl (lv_at hl 1 rfl) ?_
                refine ggM_9 X E hP inX9_tell_X9 lkX9_tell_1 dX9_tell_117 ?_
                refine lv_iload_n hx hb dX9_tell_120 rfl (lv_at hl 2 rfl) ?_
                refine lv_iload_n hx hb dX9_tell_121 rfl (lv_at hl 4 rfl) ?_
                obtain ⟨b34, hf⟩ := g_if hf
                refine gsM_9 X E hP hS b34 dX9_tell_122 (fun H locs hP hS => ?_)
                refine lv_goto (tgt := 153) hx hb dX9_tell_123 (by decide) ?_
                refine lv_iload hx hb dX9_tell_153 (lv_at hl 0 rfl) ?_
                obtain rfl := g_some hf
                exact g_ri X E hP hS dX9_tell_155
              have hf := g_iff hf c33
              by_cases c35 : a2 = (1 : Int32)
              · have hf := g_ift hf c35
                refine g_tin (k := (1 : Int32)) (off := 37) (tgt := 126) hx hb dX9_tell_89 c35 (by decide) ?_
                refine lv_aload_n hx hb dX9_tell_126 rfl (lv_at hl 1 rfl) ?_
                refine ggM_10 X E hP inX9_tell_X9 lkX9_tell_2 dX9_tell_127 ?_
                refine lv_iload_n hx hb dX9_tell_130 rfl (lv_at hl 2 rfl) ?_
                refine lv_iload_n hx hb dX9_tell_131 rfl (lv_at hl 4 rfl) ?_
                obtain ⟨b36, hf⟩ := g_if hf
                refine gsM_10 X E hP hS b36 dX9_tell_132 (fun H locs hP hS => ?_)
                refine lv_goto (tgt := 153) hx hb dX9_tell_133 (by decide) ?_
                refine lv_iload hx hb dX9_tell_153 (lv_at hl 0 rfl) ?_
                obtain rfl := g_some hf
                exact g_ri X E hP hS dX9_tell_155
              have hf := g_iff hf c35
              by_cases c37 : a2 = (2 : Int32)
              · have hf := g_ift hf c37
                refine g_tin (k := (2 : Int32)) (off := 47) (tgt := 136) hx hb dX9_tell_89 c37 (by decide) ?_
                refine lv_aload_n hx hb dX9_tell_136 rfl (lv_at hl 1 rfl) ?_
                refine ggM_13 X E hP inX9_tell_X9 lkX9_tell_3 dX9_tell_137 ?_
                refine lv_iload_n hx hb dX9_tell_140 rfl (lv_at hl 2 rfl) ?_
                refine lv_iload_n hx hb dX9_tell_141 rfl (lv_at hl 4 rfl) ?_
                obtain ⟨b38, hf⟩ := g_if hf
                refine gsM_13 X E hP hS b38 dX9_tell_142 (fun H locs hP hS => ?_)
                refine lv_goto (tgt := 153) hx hb dX9_tell_143 (by decide) ?_
                refine lv_iload hx hb dX9_tell_153 (lv_at hl 0 rfl) ?_
                obtain rfl := g_some hf
                exact g_ri X E hP hS dX9_tell_155
              have hf := g_iff hf c37
              refine lv_tableOut (tgt := 146) hx hb dX9_tell_89 (by have e0 := lv_neT (a := 0) c33 (by decide); have e1 := lv_neT (a := 1) c35 (by decide); have e2 := lv_neT (a := 2) c37 (by decide); omega) (by decide) ?_
              refine lv_aload_n hx hb dX9_tell_146 rfl (lv_at hl 1 rfl) ?_
              refine ggM_14 X E hP inX9_tell_X9 lkX9_tell_0 dX9_tell_147 ?_
              refine lv_iload_n hx hb dX9_tell_150 rfl (lv_at hl 2 rfl) ?_
              refine lv_iload_n hx hb dX9_tell_151 rfl (lv_at hl 4 rfl) ?_
              obtain ⟨b39, hf⟩ := g_if hf
              refine gsM_14 X E hP hS b39 dX9_tell_152 (fun H locs hP hS => ?_)
              refine lv_iload hx hb dX9_tell_153 (lv_at hl 0 rfl) ?_
              obtain rfl := g_some hf
              exact g_ri X E hP hS dX9_tell_155
          · have hf := g_ift hf c13
            refine lv_aload_n hx hb dX9_tell_43 rfl (lv_at hl 0 rfl) ?_
            refine ggM_9 X E hP inX9_tell_X9 lkX9_tell_1 dX9_tell_44 ?_
            refine lv_iload_n hx hb dX9_tell_47 rfl (lv_at hl 1 rfl) ?_
            obtain ⟨b40, hf⟩ := g_if hf
            refine giM_9 X E hP b40 dX9_tell_48 ?_
            refine lv_goto (tgt := 86) hx hb dX9_tell_49 (by decide) ?_
            refine lv_istore (lv' := [(4, .int (S.2.2.1 9 (a1).toNatClampNeg)), (0, .ref (ga G 63)), (1, .int a1), (2, .int a2), (3, .int a3)]) hx hb dX9_tell_86 hl (by decide) rfl (fun ls hl => ?_)
            refine lv_iload_n hx hb dX9_tell_88 rfl (lv_at hl 3 rfl) ?_
            by_cases c41 : a2 = (0 : Int32)
            · have hf := g_ift hf c41
              refine g_tin (k := (0 : Int32)) (off := 27) (tgt := 116) hx hb dX9_tell_89 c41 (by decide) ?_
              refine lv_aload_n hx hb dX9_tell_116 rfl (lv_at hl 1 rfl) ?_
              refine ggM_9 X E hP inX9_tell_X9 lkX9_tell_1 dX9_tell_117 ?_
              refine lv_iload_n hx hb dX9_tell_120 rfl (lv_at hl 2 rfl) ?_
              refine lv_iload_n hx hb dX9_tell_121 rfl (lv_at hl 4 rfl) ?_
              obtain ⟨b42, hf⟩ := g_if hf
              refine gsM_9 X E hP hS b42 dX9_tell_122 (fun H locs hP hS => ?_)
              refine lv_goto (tgt := 153) hx hb dX9_tell_123 (by decide) ?_
              refine lv_iload hx hb dX9_tell_153 (lv_at hl 0 rfl) ?_
              obtain rfl := g_some hf
              exact g_ri X E hP hS dX9_tell_155
            have hf := g_iff hf c41
            by_cases c43 : a2 = (1 : Int32)
            · have hf := g_ift hf c43
              refine g_tin (k := (1 : Int32)) (off := 37) (tgt := 126) hx hb dX9_tell_89 c43 (by decide) ?_
              refine lv_aload_n hx hb dX9_tell_126 rfl (lv_at hl 1 rfl) ?_
              refine ggM_10 X E hP inX9_tell_X9 lkX9_tell_2 dX9_tell_127 ?_
              refine lv_iload_n hx hb dX9_tell_130 rfl (lv_at hl 2 rfl) ?_
              refine lv_iload_n hx hb dX9_tell_131 rfl (lv_at hl 4 rfl) ?_
              obtain ⟨b44, hf⟩ := g_if hf
              refine gsM_10 X E hP hS b44 dX9_tell_132 (fun H locs hP hS => ?_)
              refine lv_goto (tgt := 153) hx hb dX9_tell_133 (by decide) ?_
              refine lv_iload hx hb dX9_tell_153 (lv_at hl 0 rfl) ?_
              obtain rfl := g_some hf
              exact g_ri X E hP hS dX9_tell_155
            have hf := g_iff hf c43
            by_cases c45 : a2 = (2 : Int32)
            · have hf := g_ift hf c45
              refine g_tin (k := (2 : Int32)) (off := 47) (tgt := 136) hx hb dX9_tell_89 c45 (by decide) ?_
              refine lv_aload_n hx hb dX9_tell_136 rfl (lv_at hl 1 rfl) ?_
              refine ggM_13 X E hP inX9_tell_X9 lkX9_tell_3 dX9_tell_137 ?_
              refine lv_iload_n hx hb dX9_tell_140 rfl (lv_at hl 2 rfl) ?_
              refine lv_iload_n hx hb dX9_tell_141 rfl (lv_at hl 4 rfl) ?_
              obtain ⟨b46, hf⟩ := g_if hf
              refine gsM_13 X E hP hS b46 dX9_tell_142 (fun H locs hP hS => ?_)
              refine lv_goto (tgt := 153) hx hb dX9_tell_143 (by decide) ?_
              refine lv_iload hx hb dX9_tell_153 (lv_at hl 0 rfl) ?_
              obtain rfl := g_some hf
              exact g_ri X E hP hS dX9_tell_155
            have hf := g_iff hf c45
            refine lv_tableOut (tgt := 146) hx hb dX9_tell_89 (by have e0 := lv_neT (a := 0) c41 (by decide); have e1 := lv_neT (a := 1) c43 (by decide); have e2 := lv_neT (a := 2) c45 (by decide); omega) (by decide) ?_
            refine lv_aload_n hx hb dX9_tell_146 rfl (lv_at hl 1 rfl) ?_
            refine ggM_14 X E hP inX9_tell_X9 lkX9_tell_0 dX9_tell_147 ?_
            refine lv_iload_n hx hb dX9_tell_150 rfl (lv_at hl 2 rfl) ?_
            refine lv_iload_n hx hb dX9_tell_151 rfl (lv_at hl 4 rfl) ?_
            obtain ⟨b47, hf⟩ := g_if hf
            refine gsM_14 X E hP hS b47 dX9_tell_152 (fun H locs hP hS => ?_)
            refine lv_iload hx hb dX9_tell_153 (lv_at hl 0 rfl) ?_
            obtain rfl := g_some hf
            exact g_ri X E hP hS dX9_tell_155
        · have hf := g_ift hf c12
          refine lv_aload_n hx hb dX9_tell_32 rfl (lv_at hl 0 rfl) ?_
          refine lv_bipush (v := -6) hx hb dX9_tell_33 (by decide) ?_
          obtain ⟨u48, h49, hf⟩ := g_bind hf
          refine g_vi (rest := []) X E hP hS (tcX9_no l G _ _ h49) (g_cwV X gX9_tell_X9_no rfl hdX9_no ⟨Nat.le_of_ble_eq_true rfl, Nat.le_of_ble_eq_true rfl⟩) (rcM_model E hP) rfl hl.1 rfl (Nat.le_of_ble_eq_true rfl) dX9_tell_35 ⟨Nat.le_refl _, Nat.le_refl _⟩ (fun H locs hP hS => ?_)
          obtain rfl := g_some hf
          exact g_ri X E hP hS dX9_tell_38
  · have hf := g_ift hf c3
    refine lv_aload_n hx hb dX9_tell_8 rfl (lv_at hl 0 rfl) ?_
    refine lv_iconst (v := -1) hx hb dX9_tell_9 (by decide) ?_
    obtain ⟨u50, h51, hf⟩ := g_bind hf
    refine g_vi (rest := []) X E hP hS (tcX9_no l G _ _ h51) (g_cwV X gX9_tell_X9_no rfl hdX9_no ⟨Nat.le_of_ble_eq_true rfl, Nat.le_of_ble_eq_true rfl⟩) (rcM_model E hP) rfl hl.1 rfl (Nat.le_of_ble_eq_true rfl) dX9_tell_10 ⟨Nat.le_refl _, Nat.le_refl _⟩ (fun H locs hP hS => ?_)
    obtain rfl := g_some hf
    exact g_ri X E hP hS dX9_tell_13
def fX9_isAsked (S : GS) (a1 : Int32) (a2 : Int32) : Option Int32 :=
  if a1 = 0 then
    if a2 < (-9999 : Int32) then
      some (0 : Int32)
    else
      if (9999 : Int32) < a2 then
        some (0 : Int32)
      else
        some (1 : Int32)
  else
    if a1 = (1 : Int32) then
      if a2 < 0 then
        some (0 : Int32)
      else
        if (9 : Int32) < a2 then
          some (0 : Int32)
        else
          some (1 : Int32)
    else
      if a2 < (1 : Int32) then
        some (0 : Int32)
      else
        if (99 : Int32) < a2 then
          some (0 : Int32)
        else
          some (1 : Int32)
set_option maxHeartbeats 4000000 in
set_option maxRecDepth 100000 in
theorem tcX9_isAsked (l : Launch) (G : GP) (S : GS) (a1 : Int32) (a2 : Int32) {R : Int32} (hf : fX9_isAsked S a1 a2 = some R) : CI l yX9_isAsked wsX9_isAsked 0 0 [.ref (ga G 63), .int a1, .int a2] WM G S R S := by
  refine g_met RX9 (cc := cX9_isAsked) (nL := 3) (ret := (some .boolean)) (by decide) rfl rfl (Nat.le_of_ble_eq_true rfl) ?_
  intro p e s m below meth c ls X E hP hS hl
  have hl : lv_has ls 3 [(0, .ref (ga G 63)), (1, .int a1), (2, .int a2)] := hl
  obtain ⟨hx, hb, -, -, hown, hts, -⟩ := id X
  rw [fX9_isAsked] at hf
  refine lv_iload_n hx hb dX9_isAsked_0 rfl (lv_at hl 1 rfl) ?_
  refine lv_if_ne (tgt := 26) hx hb dX9_isAsked_1 (by decide) (fun c1 => ?_) (fun c1 => ?_)
  · have hf := g_iff hf c1
    refine lv_iload_n hx hb dX9_isAsked_26 rfl (lv_at hl 1 rfl) ?_
    refine lv_iconst (v := 1) hx hb dX9_isAsked_27 (by decide) ?_
    refine lv_icmp_ne (tgt := 49) hx hb dX9_isAsked_28 (by decide) (fun c2 => ?_) (fun c2 => ?_)
    · have hf := g_iff hf c2
      refine lv_iload_n hx hb dX9_isAsked_49 rfl (lv_at hl 2 rfl) ?_
      refine lv_iconst (v := 1) hx hb dX9_isAsked_50 (by decide) ?_
      refine lv_icmp_lt (tgt := 64) hx hb dX9_isAsked_51 (by decide) (fun c3 => ?_) (fun c3 => ?_)
      · have hf := g_ift hf c3
        refine lv_iconst (v := 0) hx hb dX9_isAsked_64 (by decide) ?_
        obtain rfl := g_some hf
        exact g_rz (v := (0 : Int32)) X E hP hS rfl dX9_isAsked_65
      · have hf := g_iff hf c3
        refine lv_iload_n hx hb dX9_isAsked_54 rfl (lv_at hl 2 rfl) ?_
        refine lv_bipush (v := 99) hx hb dX9_isAsked_55 (by decide) ?_
        refine lv_icmp_gt (tgt := 64) hx hb dX9_isAsked_57 (by decide) (fun c4 => ?_) (fun c4 => ?_)
        · have hf := g_ift hf c4
          refine lv_iconst (v := 0) hx hb dX9_isAsked_64 (by decide) ?_
          obtain rfl := g_some hf
          exact g_rz (v := (0 : Int32)) X E hP hS rfl dX9_isAsked_65
        · have hf := g_iff hf c4
          refine lv_iconst (v := 1) hx hb dX9_isAsked_60 (by decide) ?_
          refine lv_goto (tgt := 65) hx hb dX9_isAsked_61 (by decide) ?_
          obtain rfl := g_some hf
          exact g_rz (v := (1 : Int32)) X E hP hS rfl dX9_isAsked_65
    · have hf := g_ift hf c2
      refine lv_iload_n hx hb dX9_isAsked_31 rfl (lv_at hl 2 rfl) ?_
      refine lv_if_lt (tgt := 45) hx hb dX9_isAsked_32 (by decide) (fun c5 => ?_) (fun c5 => ?_)
      · have hf := g_ift hf c5
        refine lv_iconst (v := 0) hx hb dX9_isAsked_45 (by decide) ?_
        refine lv_goto (tgt := 65) hx hb dX9_isAsked_46 (by decide) ?_
        obtain rfl := g_some hf
        exact g_rz (v := (0 : Int32)) X E hP hS rfl dX9_isAsked_65
      · have hf := g_iff hf c5
        refine lv_iload_n hx hb dX9_isAsked_35 rfl (lv_at hl 2 rfl) ?_
        refine lv_bipush (v := 9) hx hb dX9_isAsked_36 (by decide) ?_
        refine lv_icmp_gt (tgt := 45) hx hb dX9_isAsked_38 (by decide) (fun c6 => ?_) (fun c6 => ?_)
        · have hf := g_ift hf c6
          refine lv_iconst (v := 0) hx hb dX9_isAsked_45 (by decide) ?_
          refine lv_goto (tgt := 65) hx hb dX9_isAsked_46 (by decide) ?_
          obtain rfl := g_some hf
          exact g_rz (v := (0 : Int32)) X E hP hS rfl dX9_isAsked_65
        · have hf := g_iff hf c6
          refine lv_iconst (v := 1) hx hb dX9_isAsked_41 (by decide) ?_
          refine lv_goto (tgt := 65) hx hb dX9_isAsked_42 (by decide) ?_
          obtain rfl := g_some hf
          exact g_rz (v := (1 : Int32)) X E hP hS rfl dX9_isAsked_65
  · have hf := g_ift hf c1
    refine lv_iload_n hx hb dX9_isAsked_4 rfl (lv_at hl 2 rfl) ?_
    refine lv_sipush (v := -9999) hx hb dX9_isAsked_5 (by decide) ?_
    refine lv_icmp_lt (tgt := 22) hx hb dX9_isAsked_8 (by decide) (fun c7 => ?_) (fun c7 => ?_)
    · have hf := g_ift hf c7
      refine lv_iconst (v := 0) hx hb dX9_isAsked_22 (by decide) ?_
      refine lv_goto (tgt := 65) hx hb dX9_isAsked_23 (by decide) ?_
      obtain rfl := g_some hf
      exact g_rz (v := (0 : Int32)) X E hP hS rfl dX9_isAsked_65
    · have hf := g_iff hf c7
      refine lv_iload_n hx hb dX9_isAsked_11 rfl (lv_at hl 2 rfl) ?_
      refine lv_sipush (v := 9999) hx hb dX9_isAsked_12 (by decide) ?_
      refine lv_icmp_gt (tgt := 22) hx hb dX9_isAsked_15 (by decide) (fun c8 => ?_) (fun c8 => ?_)
      · have hf := g_ift hf c8
        refine lv_iconst (v := 0) hx hb dX9_isAsked_22 (by decide) ?_
        refine lv_goto (tgt := 65) hx hb dX9_isAsked_23 (by decide) ?_
        obtain rfl := g_some hf
        exact g_rz (v := (0 : Int32)) X E hP hS rfl dX9_isAsked_65
      · have hf := g_iff hf c8
        refine lv_iconst (v := 1) hx hb dX9_isAsked_18 (by decide) ?_
        refine lv_goto (tgt := 65) hx hb dX9_isAsked_19 (by decide) ?_
        obtain rfl := g_some hf
        exact g_rz (v := (1 : Int32)) X E hP hS rfl dX9_isAsked_65
theorem lkX9_asks_0 : Cond.fieldLink RX9 13 RX9 "fine" "I" ∈ wsX9_asks := by decide +kernel
theorem lkX9_asks_1 : Cond.fieldLink RX9 7 RX9 "hair" "I" ∈ wsX9_asks := by decide +kernel
theorem lkX9_asks_2 : Cond.fieldLink RX9 134 RX9 "start" "I" ∈ wsX9_asks := by decide +kernel
theorem inX9_asks_X9 : ∀ w ∈ wsX90, w ∈ wsX9_asks := by decide +kernel
def fX9_asks (S : GS) (a1 : Int32) (a2 : Int32) : Option (Int32 × GS) :=
  if a1 = 0 then
    if a1 = 0 then
      some ((S.1 1), (gU1 S 1 a2))
    else
      if a1 = (1 : Int32) then
        some ((S.1 1), (gU1 S 2 a2))
      else
        some ((S.1 1), (gU1 S 3 a2))
  else
    if a1 = (1 : Int32) then
      if a1 = 0 then
        some ((S.1 2), (gU1 S 1 a2))
      else
        if a1 = (1 : Int32) then
          some ((S.1 2), (gU1 S 2 a2))
        else
          some ((S.1 2), (gU1 S 3 a2))
    else
      if a1 = 0 then
        some ((S.1 3), (gU1 S 1 a2))
      else
        if a1 = (1 : Int32) then
          some ((S.1 3), (gU1 S 2 a2))
        else
          some ((S.1 3), (gU1 S 3 a2))
set_option maxHeartbeats 4000000 in
set_option maxRecDepth 100000 in
theorem tcX9_asks (l : Launch) (G : GP) (S : GS) (a1 : Int32) (a2 : Int32) {R : (Int32 × GS)} (hf : fX9_asks S a1 a2 = some R) : CI l yX9_asks wsX9_asks 0 0 [.ref (ga G 63), .int a1, .int a2] WM G S R.1 R.2 := by
  refine g_met RX9 (cc := cX9_asks) (nL := 4) (ret := (some .int)) (by decide) rfl rfl (Nat.le_of_ble_eq_true rfl) ?_
  intro p e s m below meth c ls X E hP hS hl
  have hl : lv_has ls 4 [(0, .ref (ga G 63)), (1, .int a1), (2, .int a2)] := hl
  obtain ⟨hx, hb, -, -, hown, hts, -⟩ := id X
  rw [fX9_asks] at hf
  refine lv_iload_n hx hb dX9_asks_0 rfl (lv_at hl 1 rfl) ?_
  refine lv_if_ne (tgt := 11) hx hb dX9_asks_1 (by decide) (fun c1 => ?_) (fun c1 => ?_)
  · have hf := g_iff hf c1
    refine lv_iload_n hx hb dX9_asks_11 rfl (lv_at hl 1 rfl) ?_
    refine lv_iconst (v := 1) hx hb dX9_asks_12 (by decide) ?_
    refine lv_icmp_ne (tgt := 23) hx hb dX9_asks_13 (by decide) (fun c2 => ?_) (fun c2 => ?_)
    · have hf := g_iff hf c2
      refine lv_aload_n hx hb dX9_asks_23 rfl (lv_at hl 0 rfl) ?_
      refine ggM_3 X E hP inX9_asks_X9 lkX9_asks_0 dX9_asks_24 ?_
      refine lv_istore_n (lv' := [(3, .int (S.1 3)), (0, .ref (ga G 63)), (1, .int a1), (2, .int a2)]) hx hb dX9_asks_27 rfl hl (by decide) rfl (fun ls hl => ?_)
      refine lv_iload_n hx hb dX9_asks_28 rfl (lv_at hl 2 rfl) ?_
      refine lv_if_ne (tgt := 40) hx hb dX9_asks_29 (by decide) (fun c3 => ?_) (fun c3 => ?_)
      · have hf := g_iff hf c3
        refine lv_iload_n hx hb dX9_asks_40 rfl (lv_at hl 2 rfl) ?_
        refine lv_iconst (v := 1) hx hb dX9_asks_41 (by decide) ?_
        refine lv_icmp_ne (tgt := 53) hx hb dX9_asks_42 (by decide) (fun c4 => ?_) (fun c4 => ?_)
        · have hf := g_iff hf c4
          refine lv_aload_n hx hb dX9_asks_53 rfl (lv_at hl 1 rfl) ?_
          refine lv_iload_n hx hb dX9_asks_54 rfl (lv_at hl 3 rfl) ?_
          refine gpM_3 X E hP hS inX9_asks_X9 lkX9_asks_0 dX9_asks_55 (fun H locs hP hS => ?_)
          refine lv_iload_n hx hb dX9_asks_58 rfl (lv_at hl 0 rfl) ?_
          obtain rfl := g_some hf
          exact g_ri X E hP hS dX9_asks_59
        · have hf := g_ift hf c4
          refine lv_aload_n hx hb dX9_asks_45 rfl (lv_at hl 1 rfl) ?_
          refine lv_iload_n hx hb dX9_asks_46 rfl (lv_at hl 3 rfl) ?_
          refine gpM_2 X E hP hS inX9_asks_X9 lkX9_asks_1 dX9_asks_47 (fun H locs hP hS => ?_)
          refine lv_goto (tgt := 58) hx hb dX9_asks_50 (by decide) ?_
          refine lv_iload_n hx hb dX9_asks_58 rfl (lv_at hl 0 rfl) ?_
          obtain rfl := g_some hf
          exact g_ri X E hP hS dX9_asks_59
      · have hf := g_ift hf c3
        refine lv_aload_n hx hb dX9_asks_32 rfl (lv_at hl 1 rfl) ?_
        refine lv_iload_n hx hb dX9_asks_33 rfl (lv_at hl 3 rfl) ?_
        refine gpM_1 X E hP hS inX9_asks_X9 lkX9_asks_2 dX9_asks_34 (fun H locs hP hS => ?_)
        refine lv_goto (tgt := 58) hx hb dX9_asks_37 (by decide) ?_
        refine lv_iload_n hx hb dX9_asks_58 rfl (lv_at hl 0 rfl) ?_
        obtain rfl := g_some hf
        exact g_ri X E hP hS dX9_asks_59
    · have hf := g_ift hf c2
      refine lv_aload_n hx hb dX9_asks_16 rfl (lv_at hl 0 rfl) ?_
      refine ggM_2 X E hP inX9_asks_X9 lkX9_asks_1 dX9_asks_17 ?_
      refine lv_goto (tgt := 27) hx hb dX9_asks_20 (by decide) ?_
      refine lv_istore_n (lv' := [(3, .int (S.1 2)), (0, .ref (ga G 63)), (1, .int a1), (2, .int a2)]) hx hb dX9_asks_27 rfl hl (by decide) rfl (fun ls hl => ?_)
      refine lv_iload_n hx hb dX9_asks_28 rfl (lv_at hl 2 rfl) ?_
      refine lv_if_ne (tgt := 40) hx hb dX9_asks_29 (by decide) (fun c5 => ?_) (fun c5 => ?_)
      · have hf := g_iff hf c5
        refine lv_iload_n hx hb dX9_asks_40 rfl (lv_at hl 2 rfl) ?_
        refine lv_iconst (v := 1) hx hb dX9_asks_41 (by decide) ?_
        refine lv_icmp_ne (tgt := 53) hx hb dX9_asks_42 (by decide) (fun c6 => ?_) (fun c6 => ?_)
        · have hf := g_iff hf c6
          refine lv_aload_n hx hb dX9_asks_53 rfl (lv_at hl 1 rfl) ?_
          refine lv_iload_n hx hb dX9_asks_54 rfl (lv_at hl 3 rfl) ?_
          refine gpM_3 X E hP hS inX9_asks_X9 lkX9_asks_0 dX9_asks_55 (fun H locs hP hS => ?_)
          refine lv_iload_n hx hb dX9_asks_58 rfl (lv_at hl 0 rfl) ?_
          obtain rfl := g_some hf
          exact g_ri X E hP hS dX9_asks_59
        · have hf := g_ift hf c6
          refine lv_aload_n hx hb dX9_asks_45 rfl (lv_at hl 1 rfl) ?_
          refine lv_iload_n hx hb dX9_asks_46 rfl (lv_at hl 3 rfl) ?_
          refine gpM_2 X E hP hS inX9_asks_X9 lkX9_asks_1 dX9_asks_47 (fun H locs hP hS => ?_)
          refine lv_goto (tgt := 58) hx hb dX9_asks_50 (by decide) ?_
          refine lv_iload_n hx hb dX9_asks_58 rfl (lv_at hl 0 rfl) ?_
          obtain rfl := g_some hf
          exact g_ri X E hP hS dX9_asks_59
      · have hf := g_ift hf c5
        refine lv_aload_n hx hb dX9_asks_32 rfl (lv_at hl 1 rfl) ?_
        refine lv_iload_n hx hb dX9_asks_33 rfl (lv_at hl 3 rfl) ?_
        refine gpM_1 X E hP hS inX9_asks_X9 lkX9_asks_2 dX9_asks_34 (fun H locs hP hS => ?_)
        refine lv_goto (tgt := 58) hx hb dX9_asks_37 (by decide) ?_
        refine lv_iload_n hx hb dX9_asks_58 rfl (lv_at hl 0 rfl) ?_
        obtain rfl := g_some hf
        exact g_ri X E hP hS dX9_asks_59
  · have hf := g_ift hf c1
    refine lv_aload_n hx hb dX9_asks_4 rfl (lv_at hl 0 rfl) ?_
    refine ggM_1 X E hP inX9_asks_X9 lkX9_asks_2 dX9_asks_5 ?_
    refine lv_goto (tgt := 27) hx hb dX9_asks_8 (by decide) ?_
    refine lv_istore_n (lv' := [(3, .int (S.1 1)), (0, .ref (ga G 63)), (1, .int a1), (2, .int a2)]) hx hb dX9_asks_27 rfl hl (by decide) rfl (fun ls hl => ?_)
    refine lv_iload_n hx hb dX9_asks_28 rfl (lv_at hl 2 rfl) ?_
    refine lv_if_ne (tgt := 40) hx hb dX9_asks_29 (by decide) (fun c7 => ?_) (fun c7 => ?_)
    · have hf := g_iff hf c7
      refine lv_iload_n hx hb dX9_asks_40 rfl (lv_at hl 2 rfl) ?_
      refine lv_iconst (v := 1) hx hb dX9_asks_41 (by decide) ?_
      refine lv_icmp_ne (tgt := 53) hx hb dX9_asks_42 (by decide) (fun c8 => ?_) (fun c8 => ?_)
      · have hf := g_iff hf c8
        refine lv_aload_n hx hb dX9_asks_53 rfl (lv_at hl 1 rfl) ?_
        refine lv_iload_n hx hb dX9_asks_54 rfl (lv_at hl 3 rfl) ?_
        refine gpM_3 X E hP hS inX9_asks_X9 lkX9_asks_0 dX9_asks_55 (fun H locs hP hS => ?_)
        refine lv_iload_n hx hb dX9_asks_58 rfl (lv_at hl 0 rfl) ?_
        obtain rfl := g_some hf
        exact g_ri X E hP hS dX9_asks_59
      · have hf := g_ift hf c8
        refine lv_aload_n hx hb dX9_asks_45 rfl (lv_at hl 1 rfl) ?_
        refine lv_iload_n hx hb dX9_asks_46 rfl (lv_at hl 3 rfl) ?_
        refine gpM_2 X E hP hS inX9_asks_X9 lkX9_asks_1 dX9_asks_47 (fun H locs hP hS => ?_)
        refine lv_goto (tgt := 58) hx hb dX9_asks_50 (by decide) ?_
        refine lv_iload_n hx hb dX9_asks_58 rfl (lv_at hl 0 rfl) ?_
        obtain rfl := g_some hf
        exact g_ri X E hP hS dX9_asks_59
    · have hf := g_ift hf c7
      refine lv_aload_n hx hb dX9_asks_32 rfl (lv_at hl 1 rfl) ?_
      refine lv_iload_n hx hb dX9_asks_33 rfl (lv_at hl 3 rfl) ?_
      refine gpM_1 X E hP hS inX9_asks_X9 lkX9_asks_2 dX9_asks_34 (fun H locs hP hS => ?_)
      refine lv_goto (tgt := 58) hx hb dX9_asks_37 (by decide) ?_
      refine lv_iload_n hx hb dX9_asks_58 rfl (lv_at hl 0 rfl) ?_
      obtain rfl := g_some hf
      exact g_ri X E hP hS dX9_asks_59
def fX9_ask (S : GS) (a1 : Int32) (a2 : Int32) : Option (Int32 × GS) :=
  if a1 < 0 then
    (fX9_noFar S (-6 : Int32)).bind fun u2 =>
    some (u2.1, u2.2)
  else
    if (2 : Int32) < a1 then
      (fX9_noFar S (-6 : Int32)).bind fun u5 =>
      some (u5.1, u5.2)
    else
      (fX9_isAsked S a1 a2).bind fun u7 =>
      if u7 = 0 then
        (fX9_noFar S (-6 : Int32)).bind fun u10 =>
        some (u10.1, u10.2)
      else
        (fX9_asks S a1 a2).bind fun u12 =>
        some (u12.1, u12.2)
set_option maxHeartbeats 4000000 in
set_option maxRecDepth 100000 in
theorem tcX9_ask (l : Launch) (G : GP) (S : GS) (a1 : Int32) (a2 : Int32) {R : (Int32 × GS)} (hf : fX9_ask S a1 a2 = some R) : CI l yX9_ask wsX9_ask 1 23 [.ref (ga G 63), .int a1, .int a2] WM G S R.1 R.2 := by
  refine g_met RX9 (cc := cX9_ask) (nL := 3) (ret := (some .int)) (by decide) rfl rfl (Nat.le_of_ble_eq_true rfl) ?_
  intro p e s m below meth c ls X E hP hS hl
  have hl : lv_has ls 3 [(0, .ref (ga G 63)), (1, .int a1), (2, .int a2)] := hl
  obtain ⟨hx, hb, -, -, hown, hts, -⟩ := id X
  rw [fX9_ask] at hf
  refine lv_iload_n hx hb dX9_ask_0 rfl (lv_at hl 1 rfl) ?_
  refine lv_if_lt (tgt := 27) hx hb dX9_ask_1 (by decide) (fun c1 => ?_) (fun c1 => ?_)
  · have hf := g_ift hf c1
    refine lv_aload_n hx hb dX9_ask_27 rfl (lv_at hl 0 rfl) ?_
    refine lv_bipush (v := -6) hx hb dX9_ask_28 (by decide) ?_
    obtain ⟨u2, h3, hf⟩ := g_bind hf
    refine g_vi (rest := []) X E hP hS (tcX9_noFar l G _ _ h3) (g_cwV X gX9_ask_X9_noFar rfl hdX9_noFar ⟨Nat.le_of_ble_eq_true rfl, Nat.le_of_ble_eq_true rfl⟩) (rcM_model E hP) rfl hl.1 rfl (Nat.le_of_ble_eq_true rfl) dX9_ask_30 ⟨Nat.le_refl _, Nat.le_refl _⟩ (fun H locs hP hS => ?_)
    obtain rfl := g_some hf
    exact g_ri X E hP hS dX9_ask_33
  · have hf := g_iff hf c1
    refine lv_iload_n hx hb dX9_ask_4 rfl (lv_at hl 1 rfl) ?_
    refine lv_iconst (v := 2) hx hb dX9_ask_5 (by decide) ?_
    refine lv_icmp_gt (tgt := 27) hx hb dX9_ask_6 (by decide) (fun c4 => ?_) (fun c4 => ?_)
    · have hf := g_ift hf c4
      refine lv_aload_n hx hb dX9_ask_27 rfl (lv_at hl 0 rfl) ?_
      refine lv_bipush (v := -6) hx hb dX9_ask_28 (by decide) ?_
      obtain ⟨u5, h6, hf⟩ := g_bind hf
      refine g_vi (rest := []) X E hP hS (tcX9_noFar l G _ _ h6) (g_cwV X gX9_ask_X9_noFar rfl hdX9_noFar ⟨Nat.le_of_ble_eq_true rfl, Nat.le_of_ble_eq_true rfl⟩) (rcM_model E hP) rfl hl.1 rfl (Nat.le_of_ble_eq_true rfl) dX9_ask_30 ⟨Nat.le_refl _, Nat.le_refl _⟩ (fun H locs hP hS => ?_)
      obtain rfl := g_some hf
      exact g_ri X E hP hS dX9_ask_33
    · have hf := g_iff hf c4
      refine lv_aload_n hx hb dX9_ask_9 rfl (lv_at hl 0 rfl) ?_
      refine lv_iload_n hx hb dX9_ask_10 rfl (lv_at hl 1 rfl) ?_
      refine lv_iload_n hx hb dX9_ask_11 rfl (lv_at hl 2 rfl) ?_
      obtain ⟨u7, h8, hf⟩ := g_bind hf
      refine g_vi (rest := []) X E hP hS (tcX9_isAsked l G _ _ _ h8) (g_cwV X gX9_ask_X9_isAsked rfl hdX9_isAsked ⟨Nat.le_of_ble_eq_true rfl, Nat.le_of_ble_eq_true rfl⟩) (rcM_model E hP) rfl hl.1 rfl (Nat.le_of_ble_eq_true rfl) dX9_ask_12 ⟨Nat.le_refl _, Nat.le_refl _⟩ (fun H locs hP hS => ?_)
      refine lv_if_eq (tgt := 27) hx hb dX9_ask_15 (by decide) (fun c9 => ?_) (fun c9 => ?_)
      · have hf := g_ift hf c9
        refine lv_aload_n hx hb dX9_ask_27 rfl (lv_at hl 0 rfl) ?_
        refine lv_bipush (v := -6) hx hb dX9_ask_28 (by decide) ?_
        obtain ⟨u10, h11, hf⟩ := g_bind hf
        refine g_vi (rest := []) X E hP hS (tcX9_noFar l G _ _ h11) (g_cwV X gX9_ask_X9_noFar rfl hdX9_noFar ⟨Nat.le_of_ble_eq_true rfl, Nat.le_of_ble_eq_true rfl⟩) (rcM_model E hP) rfl hl.1 rfl (Nat.le_of_ble_eq_true rfl) dX9_ask_30 ⟨Nat.le_refl _, Nat.le_refl _⟩ (fun H locs hP hS => ?_)
        obtain rfl := g_some hf
        exact g_ri X E hP hS dX9_ask_33
      · have hf := g_iff hf c9
        refine lv_aload_n hx hb dX9_ask_18 rfl (lv_at hl 0 rfl) ?_
        refine lv_iload_n hx hb dX9_ask_19 rfl (lv_at hl 1 rfl) ?_
        refine lv_iload_n hx hb dX9_ask_20 rfl (lv_at hl 2 rfl) ?_
        obtain ⟨u12, h13, hf⟩ := g_bind hf
        refine g_vi (rest := []) X E hP hS (tcX9_asks l G _ _ _ h13) (g_cwV X gX9_ask_X9_asks rfl hdX9_asks ⟨Nat.le_of_ble_eq_true rfl, Nat.le_of_ble_eq_true rfl⟩) (rcM_model E hP) rfl hl.1 rfl (Nat.le_of_ble_eq_true rfl) dX9_ask_21 ⟨Nat.le_refl _, Nat.le_refl _⟩ (fun H locs hP hS => ?_)
        refine lv_goto (tgt := 33) hx hb dX9_ask_24 (by decide) ?_
        obtain rfl := g_some hf
        exact g_ri X E hP hS dX9_ask_33
theorem lkX9_wanted_0 : Cond.fieldLink RX9 50 RX9 "held" "[I" ∈ wsX9_wanted := by decide +kernel
theorem inX9_wanted_X9 : ∀ w ∈ wsX90, w ∈ wsX9_wanted := by decide +kernel
def fX9_wanted (S : GS) (a1 : Int32) : Option Int32 :=
  (fX9_isShelf S a1).bind fun u1 =>
  if u1 = 0 then
    some (-1 : Int32)
  else
    if a1 < 0 ∨ 8 ≤ (a1).toNatClampNeg then none else
    if (S.2.2.1 15 (a1).toNatClampNeg) = (2 : Int32) then
      some (-2 : Int32)
    else
      if a1 < 0 ∨ 8 ≤ (a1).toNatClampNeg then none else
      if (S.2.2.1 15 (a1).toNatClampNeg) = 0 then
        some (-3 : Int32)
      else
        some (0 : Int32)
set_option maxHeartbeats 4000000 in
set_option maxRecDepth 100000 in
theorem tcX9_wanted (l : Launch) (G : GP) (S : GS) (a1 : Int32) {R : Int32} (hf : fX9_wanted S a1 = some R) : CI l yX9_wanted wsX9_wanted 1 21 [.ref (ga G 63), .int a1] WM G S R S := by
  refine g_met RX9 (cc := cX9_wanted) (nL := 2) (ret := (some .int)) (by decide) rfl rfl (Nat.le_of_ble_eq_true rfl) ?_
  intro p e s m below meth c ls X E hP hS hl
  have hl : lv_has ls 2 [(0, .ref (ga G 63)), (1, .int a1)] := hl
  obtain ⟨hx, hb, -, -, hown, hts, -⟩ := id X
  rw [fX9_wanted] at hf
  refine lv_aload_n hx hb dX9_wanted_0 rfl (lv_at hl 0 rfl) ?_
  refine lv_iload_n hx hb dX9_wanted_1 rfl (lv_at hl 1 rfl) ?_
  obtain ⟨u1, h2, hf⟩ := g_bind hf
  refine g_vi (rest := []) X E hP hS (tcX9_isShelf l G _ _ h2) (g_cwV X gX9_wanted_X9_isShelf rfl hdX9_isShelf ⟨Nat.le_of_ble_eq_true rfl, Nat.le_of_ble_eq_true rfl⟩) (rcM_model E hP) rfl hl.1 rfl (Nat.le_of_ble_eq_true rfl) dX9_wanted_2 ⟨Nat.le_refl _, Nat.le_refl _⟩ (fun H locs hP hS => ?_)
  refine lv_if_ne (tgt := 12) hx hb dX9_wanted_5 (by decide) (fun c3 => ?_) (fun c3 => ?_)
  · have hf := g_iff hf c3
    refine lv_aload_n hx hb dX9_wanted_12 rfl (lv_at hl 0 rfl) ?_
    refine ggM_15 X E hP inX9_wanted_X9 lkX9_wanted_0 dX9_wanted_13 ?_
    refine lv_iload_n hx hb dX9_wanted_16 rfl (lv_at hl 1 rfl) ?_
    obtain ⟨b4, hf⟩ := g_if hf
    refine giM_15 X E hP b4 dX9_wanted_17 ?_
    refine lv_iconst (v := 2) hx hb dX9_wanted_18 (by decide) ?_
    refine lv_icmp_ne (tgt := 27) hx hb dX9_wanted_19 (by decide) (fun c5 => ?_) (fun c5 => ?_)
    · have hf := g_iff hf c5
      refine lv_aload_n hx hb dX9_wanted_27 rfl (lv_at hl 0 rfl) ?_
      refine ggM_15 X E hP inX9_wanted_X9 lkX9_wanted_0 dX9_wanted_28 ?_
      refine lv_iload_n hx hb dX9_wanted_31 rfl (lv_at hl 1 rfl) ?_
      obtain ⟨b6, hf⟩ := g_if hf
      refine giM_15 X E hP b6 dX9_wanted_32 ?_
      refine lv_if_ne (tgt := 41) hx hb dX9_wanted_33 (by decide) (fun c7 => ?_) (fun c7 => ?_)
      · have hf := g_iff hf c7
        refine lv_iconst (v := 0) hx hb dX9_wanted_41 (by decide) ?_
        obtain rfl := g_some hf
        exact g_ri X E hP hS dX9_wanted_42
      · have hf := g_ift hf c7
        refine lv_bipush (v := -3) hx hb dX9_wanted_36 (by decide) ?_
        refine lv_goto (tgt := 42) hx hb dX9_wanted_38 (by decide) ?_
        obtain rfl := g_some hf
        exact g_ri X E hP hS dX9_wanted_42
    · have hf := g_ift hf c5
      refine lv_bipush (v := -2) hx hb dX9_wanted_22 (by decide) ?_
      refine lv_goto (tgt := 42) hx hb dX9_wanted_24 (by decide) ?_
      obtain rfl := g_some hf
      exact g_ri X E hP hS dX9_wanted_42
  · have hf := g_ift hf c3
    refine lv_iconst (v := -1) hx hb dX9_wanted_8 (by decide) ?_
    refine lv_goto (tgt := 42) hx hb dX9_wanted_9 (by decide) ?_
    obtain rfl := g_some hf
    exact g_ri X E hP hS dX9_wanted_42
def fX9_carries_7_29_3 : Nat → GS → Int32 → Int32 → Int32 → Option GS
  | 0, _, _, _, _ => none
  | fu + 1, S, v3, v4, v5 =>
    if (16 : Int32) ≤ v5 then
      some S
    else
      if v4 = 0 then
        if v5 < 0 ∨ 16 ≤ (v5).toNatClampNeg then none else
        if (v3 + v5) < 0 ∨ 140 ≤ (v3 + v5).toNatClampNeg then none else
        fX9_carries_7_29_3 fu (gU3 S 29 (v3 + v5).toNatClampNeg (S.2.2.1 7 (v5).toNatClampNeg)) v3 v4 (v5 + 1)
      else
        if (v3 + v5) < 0 ∨ 140 ≤ (v3 + v5).toNatClampNeg then none else
        if v5 < 0 ∨ 16 ≤ (v5).toNatClampNeg then none else
        fX9_carries_7_29_3 fu (gU3 S 7 (v5).toNatClampNeg (S.2.2.1 29 (v3 + v5).toNatClampNeg)) v3 v4 (v5 + 1)
set_option maxHeartbeats 4000000 in
set_option maxRecDepth 100000 in
theorem bX9_carries_7_29_3 {p : Program} {l : Launch} {e : Env} {s : State} {m : MethodId} {args : Array Value} {below : List Frame} {meth : Method} {c : Code} {Q : State → Prop} {G : GP} (X : GX p s m meth c args cX9_carries 6 (some .int) wsX9_carries RX9) (E : gE WM G s)  : ∀ (fu : Nat) (S : GS) (v3 : Int32) (v4 : Int32) (v5 : Int32) (R : GS) (H : Heap) (locs : List Loc) (ls : Array Slot) (_ : fX9_carries_7_29_3 fu S v3 v4 v5 = some R) (_ : va_P (gD G) vwCl (WM G S ++ gF G) H) (_ : va_S (gA G) s.heap H locs) (_ : lv_has ls 6 [(1, .ref (ga G 7)), (2, .ref (ga G 29)), (3, .int v3), (4, .int v4), (5, .int v5)]) (_ : ∀ (H : Heap) (locs : List Loc) (ls : Array Slot), va_P (gD G) vwCl (WM G R ++ gF G) H → va_S (gA G) s.heap H locs → lv_has ls 6 [(3, .int v3)] → W p l e (gR 0 0) s m args below meth c H locs 0 0 Q (F0 m 44 ls [])), W p l e (gR 0 0) s m args below meth c H locs 0 0 Q (F0 m 3 ls []) := by
  obtain ⟨hx, hb, -, -, hown, hts, -⟩ := id X
  intro fu
  induction fu with
  | zero =>
    intro S v3 v4 v5 R H locs ls hf
    cases (show (none : Option GS) = some R from hf)
  | succ fu ih =>
    intro S v3 v4 v5 R H locs ls hf hP hS hl kk
    rw [fX9_carries_7_29_3] at hf
    refine lv_iload hx hb dX9_carries_3 (lv_at hl 4 rfl) ?_
    refine lv_bipush (v := 16) hx hb dX9_carries_5 (by decide) ?_
    refine lv_icmp_ge (tgt := 44) hx hb dX9_carries_7 (by decide) (fun c1 => ?_) (fun c1 => ?_)
    · have hf := g_ift hf c1
      obtain rfl := g_some hf
      exact kk _ _ _ hP hS (lv_sub hl [2] rfl)
    · have hf := g_iff hf c1
      refine lv_iload hx hb dX9_carries_10 (lv_at hl 3 rfl) ?_
      refine lv_if_eq (tgt := 28) hx hb dX9_carries_12 (by decide) (fun c2 => ?_) (fun c2 => ?_)
      · have hf := g_ift hf c2
        refine lv_aload_n hx hb dX9_carries_28 rfl (lv_at hl 1 rfl) ?_
        refine lv_iload_n hx hb dX9_carries_29 rfl (lv_at hl 2 rfl) ?_
        refine lv_iload hx hb dX9_carries_30 (lv_at hl 4 rfl) ?_
        refine lv_iadd hx hb dX9_carries_32 ?_
        refine lv_aload_n hx hb dX9_carries_33 rfl (lv_at hl 0 rfl) ?_
        refine lv_iload hx hb dX9_carries_34 (lv_at hl 4 rfl) ?_
        obtain ⟨b3, hf⟩ := g_if hf
        refine giM_7 X E hP b3 dX9_carries_36 ?_
        obtain ⟨b4, hf⟩ := g_if hf
        refine gsM_29 X E hP hS b4 dX9_carries_37 (fun H locs hP hS => ?_)
        refine lv_iinc (v := (v5 + 1)) (lv' := [(5, .int (v5 + 1)), (1, .ref (ga G 7)), (2, .ref (ga G 29)), (3, .int v3), (4, .int v4)]) hx hb dX9_carries_38 hl (k := 4) rfl rfl (by decide) rfl (fun ls hl => ?_)
        refine lv_goto (tgt := 3) hx hb dX9_carries_41 (by decide) ?_
        exact ih _ _ _ _ _ _ _ _ hf hP hS (lv_sub hl [1, 2, 3, 4, 0] rfl) kk
      · have hf := g_iff hf c2
        refine lv_aload_n hx hb dX9_carries_15 rfl (lv_at hl 0 rfl) ?_
        refine lv_iload hx hb dX9_carries_16 (lv_at hl 4 rfl) ?_
        refine lv_aload_n hx hb dX9_carries_18 rfl (lv_at hl 1 rfl) ?_
        refine lv_iload_n hx hb dX9_carries_19 rfl (lv_at hl 2 rfl) ?_
        refine lv_iload hx hb dX9_carries_20 (lv_at hl 4 rfl) ?_
        refine lv_iadd hx hb dX9_carries_22 ?_
        obtain ⟨b5, hf⟩ := g_if hf
        refine giM_29 X E hP b5 dX9_carries_23 ?_
        obtain ⟨b6, hf⟩ := g_if hf
        refine gsM_7 X E hP hS b6 dX9_carries_24 (fun H locs hP hS => ?_)
        refine lv_goto (tgt := 38) hx hb dX9_carries_25 (by decide) ?_
        refine lv_iinc (v := (v5 + 1)) (lv' := [(5, .int (v5 + 1)), (1, .ref (ga G 7)), (2, .ref (ga G 29)), (3, .int v3), (4, .int v4)]) hx hb dX9_carries_38 hl (k := 4) rfl rfl (by decide) rfl (fun ls hl => ?_)
        refine lv_goto (tgt := 3) hx hb dX9_carries_41 (by decide) ?_
        exact ih _ _ _ _ _ _ _ _ hf hP hS (lv_sub hl [1, 2, 3, 4, 0] rfl) kk
def fX9_carries_7_29 (S : GS) (a1 : Int32) (a2 : Int32) : Option (Int32 × GS) :=
  (fX9_carries_7_29_3 gFuel S a1 a2 (0 : Int32)).bind fun u7 =>
  some ((a1 + (16 : Int32)), u7)
set_option maxHeartbeats 4000000 in
set_option maxRecDepth 100000 in
theorem tcX9_carries_7_29 (l : Launch) (G : GP) (S : GS) (a1 : Int32) (a2 : Int32) {R : (Int32 × GS)} (hf : fX9_carries_7_29 S a1 a2 = some R) : CI l yX9_carries wsX9_carries 0 0 [.ref (ga G 63), .ref (ga G 7), .ref (ga G 29), .int a1, .int a2] WM G S R.1 R.2 := by
  refine g_met RX9 (cc := cX9_carries) (nL := 6) (ret := (some .int)) (by decide) rfl rfl (Nat.le_of_ble_eq_true rfl) ?_
  intro p e s m below meth c ls X E hP hS hl
  have hl : lv_has ls 6 [(0, .ref (ga G 63)), (1, .ref (ga G 7)), (2, .ref (ga G 29)), (3, .int a1), (4, .int a2)] := hl
  obtain ⟨hx, hb, -, -, hown, hts, -⟩ := id X
  rw [fX9_carries_7_29] at hf
  refine lv_iconst (v := 0) hx hb dX9_carries_0 (by decide) ?_
  refine lv_istore (lv' := [(5, .int (0 : Int32)), (0, .ref (ga G 63)), (1, .ref (ga G 7)), (2, .ref (ga G 29)), (3, .int a1), (4, .int a2)]) hx hb dX9_carries_1 hl (by decide) rfl (fun ls hl => ?_)
  obtain ⟨u7, h8, hf⟩ := g_bind hf
  refine bX9_carries_7_29_3 X E gFuel _ _ _ _ u7 _ _ _ h8 hP hS (lv_sub hl [2, 3, 4, 5, 0] rfl) (fun H locs ls hP hS hl => ?_)
  have hl : lv_has ls 6 [(3, .int a1)] := hl
  have hP : va_P (gD G) vwCl (WM G u7 ++ gF G) H := hP
  refine lv_iload_n hx hb dX9_carries_44 rfl (lv_at hl 0 rfl) ?_
  refine lv_bipush (v := 16) hx hb dX9_carries_45 (by decide) ?_
  refine lv_iadd hx hb dX9_carries_47 ?_
  obtain rfl := g_some hf
  exact g_ri X E hP hS dX9_carries_48
def fX9_carries_8_29_3 : Nat → GS → Int32 → Int32 → Int32 → Option GS
  | 0, _, _, _, _ => none
  | fu + 1, S, v3, v4, v5 =>
    if (16 : Int32) ≤ v5 then
      some S
    else
      if v4 = 0 then
        if v5 < 0 ∨ 16 ≤ (v5).toNatClampNeg then none else
        if (v3 + v5) < 0 ∨ 140 ≤ (v3 + v5).toNatClampNeg then none else
        fX9_carries_8_29_3 fu (gU3 S 29 (v3 + v5).toNatClampNeg (S.2.2.1 8 (v5).toNatClampNeg)) v3 v4 (v5 + 1)
      else
        if (v3 + v5) < 0 ∨ 140 ≤ (v3 + v5).toNatClampNeg then none else
        if v5 < 0 ∨ 16 ≤ (v5).toNatClampNeg then none else
        fX9_carries_8_29_3 fu (gU3 S 8 (v5).toNatClampNeg (S.2.2.1 29 (v3 + v5).toNatClampNeg)) v3 v4 (v5 + 1)
set_option maxHeartbeats 4000000 in
set_option maxRecDepth 100000 in
theorem bX9_carries_8_29_3 {p : Program} {l : Launch} {e : Env} {s : State} {m : MethodId} {args : Array Value} {below : List Frame} {meth : Method} {c : Code} {Q : State → Prop} {G : GP} (X : GX p s m meth c args cX9_carries 6 (some .int) wsX9_carries RX9) (E : gE WM G s)  : ∀ (fu : Nat) (S : GS) (v3 : Int32) (v4 : Int32) (v5 : Int32) (R : GS) (H : Heap) (locs : List Loc) (ls : Array Slot) (_ : fX9_carries_8_29_3 fu S v3 v4 v5 = some R) (_ : va_P (gD G) vwCl (WM G S ++ gF G) H) (_ : va_S (gA G) s.heap H locs) (_ : lv_has ls 6 [(1, .ref (ga G 8)), (2, .ref (ga G 29)), (3, .int v3), (4, .int v4), (5, .int v5)]) (_ : ∀ (H : Heap) (locs : List Loc) (ls : Array Slot), va_P (gD G) vwCl (WM G R ++ gF G) H → va_S (gA G) s.heap H locs → lv_has ls 6 [(3, .int v3)] → W p l e (gR 0 0) s m args below meth c H locs 0 0 Q (F0 m 44 ls [])), W p l e (gR 0 0) s m args below meth c H locs 0 0 Q (F0 m 3 ls []) := by
  obtain ⟨hx, hb, -, -, hown, hts, -⟩ := id X
  intro fu
  induction fu with
  | zero =>
    intro S v3 v4 v5 R H locs ls hf
    cases (show (none : Option GS) = some R from hf)
  | succ fu ih =>
    intro S v3 v4 v5 R H locs ls hf hP hS hl kk
    rw [fX9_carries_8_29_3] at hf
    refine lv_iload hx hb dX9_carries_3 (lv_at hl 4 rfl) ?_
    refine lv_bipush (v := 16) hx hb dX9_carries_5 (by decide) ?_
    refine lv_icmp_ge (tgt := 44) hx hb dX9_carries_7 (by decide) (fun c1 => ?_) (fun c1 => ?_)
    · have hf := g_ift hf c1
      obtain rfl := g_some hf
      exact kk _ _ _ hP hS (lv_sub hl [2] rfl)
    · have hf := g_iff hf c1
      refine lv_iload hx hb dX9_carries_10 (lv_at hl 3 rfl) ?_
      refine lv_if_eq (tgt := 28) hx hb dX9_carries_12 (by decide) (fun c2 => ?_) (fun c2 => ?_)
      · have hf := g_ift hf c2
        refine lv_aload_n hx hb dX9_carries_28 rfl (lv_at hl 1 rfl) ?_
        refine lv_iload_n hx hb dX9_carries_29 rfl (lv_at hl 2 rfl) ?_
        refine lv_iload hx hb dX9_carries_30 (lv_at hl 4 rfl) ?_
        refine lv_iadd hx hb dX9_carries_32 ?_
        refine lv_aload_n hx hb dX9_carries_33 rfl (lv_at hl 0 rfl) ?_
        refine lv_iload hx hb dX9_carries_34 (lv_at hl 4 rfl) ?_
        obtain ⟨b3, hf⟩ := g_if hf
        refine giM_8 X E hP b3 dX9_carries_36 ?_
        obtain ⟨b4, hf⟩ := g_if hf
        refine gsM_29 X E hP hS b4 dX9_carries_37 (fun H locs hP hS => ?_)
        refine lv_iinc (v := (v5 + 1)) (lv' := [(5, .int (v5 + 1)), (1, .ref (ga G 8)), (2, .ref (ga G 29)), (3, .int v3), (4, .int v4)]) hx hb dX9_carries_38 hl (k := 4) rfl rfl (by decide) rfl (fun ls hl => ?_)
        refine lv_goto (tgt := 3) hx hb dX9_carries_41 (by decide) ?_
        exact ih _ _ _ _ _ _ _ _ hf hP hS (lv_sub hl [1, 2, 3, 4, 0] rfl) kk
      · have hf := g_iff hf c2
        refine lv_aload_n hx hb dX9_carries_15 rfl (lv_at hl 0 rfl) ?_
        refine lv_iload hx hb dX9_carries_16 (lv_at hl 4 rfl) ?_
        refine lv_aload_n hx hb dX9_carries_18 rfl (lv_at hl 1 rfl) ?_
        refine lv_iload_n hx hb dX9_carries_19 rfl (lv_at hl 2 rfl) ?_
        refine lv_iload hx hb dX9_carries_20 (lv_at hl 4 rfl) ?_
        refine lv_iadd hx hb dX9_carries_22 ?_
        obtain ⟨b5, hf⟩ := g_if hf
        refine giM_29 X E hP b5 dX9_carries_23 ?_
        obtain ⟨b6, hf⟩ := g_if hf
        refine gsM_8 X E hP hS b6 dX9_carries_24 (fun H locs hP hS => ?_)
        refine lv_goto (tgt := 38) hx hb dX9_carries_25 (by decide) ?_
        refine lv_iinc (v := (v5 + 1)) (lv' := [(5, .int (v5 + 1)), (1, .ref (ga G 8)), (2, .ref (ga G 29)), (3, .int v3), (4, .int v4)]) hx hb dX9_carries_38 hl (k := 4) rfl rfl (by decide) rfl (fun ls hl => ?_)
        refine lv_goto (tgt := 3) hx hb dX9_carries_41 (by decide) ?_
        exact ih _ _ _ _ _ _ _ _ hf hP hS (lv_sub hl [1, 2, 3, 4, 0] rfl) kk
def fX9_carries_8_29 (S : GS) (a1 : Int32) (a2 : Int32) : Option (Int32 × GS) :=
  (fX9_carries_8_29_3 gFuel S a1 a2 (0 : Int32)).bind fun u7 =>
  some ((a1 + (16 : Int32)), u7)
set_option maxHeartbeats 4000000 in
set_option maxRecDepth 100000 in
theorem tcX9_carries_8_29 (l : Launch) (G : GP) (S : GS) (a1 : Int32) (a2 : Int32) {R : (Int32 × GS)} (hf : fX9_carries_8_29 S a1 a2 = some R) : CI l yX9_carries wsX9_carries 0 0 [.ref (ga G 63), .ref (ga G 8), .ref (ga G 29), .int a1, .int a2] WM G S R.1 R.2 := by
  refine g_met RX9 (cc := cX9_carries) (nL := 6) (ret := (some .int)) (by decide) rfl rfl (Nat.le_of_ble_eq_true rfl) ?_
  intro p e s m below meth c ls X E hP hS hl
  have hl : lv_has ls 6 [(0, .ref (ga G 63)), (1, .ref (ga G 8)), (2, .ref (ga G 29)), (3, .int a1), (4, .int a2)] := hl
  obtain ⟨hx, hb, -, -, hown, hts, -⟩ := id X
  rw [fX9_carries_8_29] at hf
  refine lv_iconst (v := 0) hx hb dX9_carries_0 (by decide) ?_
  refine lv_istore (lv' := [(5, .int (0 : Int32)), (0, .ref (ga G 63)), (1, .ref (ga G 8)), (2, .ref (ga G 29)), (3, .int a1), (4, .int a2)]) hx hb dX9_carries_1 hl (by decide) rfl (fun ls hl => ?_)
  obtain ⟨u7, h8, hf⟩ := g_bind hf
  refine bX9_carries_8_29_3 X E gFuel _ _ _ _ u7 _ _ _ h8 hP hS (lv_sub hl [2, 3, 4, 5, 0] rfl) (fun H locs ls hP hS hl => ?_)
  have hl : lv_has ls 6 [(3, .int a1)] := hl
  have hP : va_P (gD G) vwCl (WM G u7 ++ gF G) H := hP
  refine lv_iload_n hx hb dX9_carries_44 rfl (lv_at hl 0 rfl) ?_
  refine lv_bipush (v := 16) hx hb dX9_carries_45 (by decide) ?_
  refine lv_iadd hx hb dX9_carries_47 ?_
  obtain rfl := g_some hf
  exact g_ri X E hP hS dX9_carries_48
def fX9_carries_9_29_3 : Nat → GS → Int32 → Int32 → Int32 → Option GS
  | 0, _, _, _, _ => none
  | fu + 1, S, v3, v4, v5 =>
    if (16 : Int32) ≤ v5 then
      some S
    else
      if v4 = 0 then
        if v5 < 0 ∨ 16 ≤ (v5).toNatClampNeg then none else
        if (v3 + v5) < 0 ∨ 140 ≤ (v3 + v5).toNatClampNeg then none else
        fX9_carries_9_29_3 fu (gU3 S 29 (v3 + v5).toNatClampNeg (S.2.2.1 9 (v5).toNatClampNeg)) v3 v4 (v5 + 1)
      else
        if (v3 + v5) < 0 ∨ 140 ≤ (v3 + v5).toNatClampNeg then none else
        if v5 < 0 ∨ 16 ≤ (v5).toNatClampNeg then none else
        fX9_carries_9_29_3 fu (gU3 S 9 (v5).toNatClampNeg (S.2.2.1 29 (v3 + v5).toNatClampNeg)) v3 v4 (v5 + 1)
set_option maxHeartbeats 4000000 in
set_option maxRecDepth 100000 in
theorem bX9_carries_9_29_3 {p : Program} {l : Launch} {e : Env} {s : State} {m : MethodId} {args : Array Value} {below : List Frame} {meth : Method} {c : Code} {Q : State → Prop} {G : GP} (X : GX p s m meth c args cX9_carries 6 (some .int) wsX9_carries RX9) (E : gE WM G s)  : ∀ (fu : Nat) (S : GS) (v3 : Int32) (v4 : Int32) (v5 : Int32) (R : GS) (H : Heap) (locs : List Loc) (ls : Array Slot) (_ : fX9_carries_9_29_3 fu S v3 v4 v5 = some R) (_ : va_P (gD G) vwCl (WM G S ++ gF G) H) (_ : va_S (gA G) s.heap H locs) (_ : lv_has ls 6 [(1, .ref (ga G 9)), (2, .ref (ga G 29)), (3, .int v3), (4, .int v4), (5, .int v5)]) (_ : ∀ (H : Heap) (locs : List Loc) (ls : Array Slot), va_P (gD G) vwCl (WM G R ++ gF G) H → va_S (gA G) s.heap H locs → lv_has ls 6 [(3, .int v3)] → W p l e (gR 0 0) s m args below meth c H locs 0 0 Q (F0 m 44 ls [])), W p l e (gR 0 0) s m args below meth c H locs 0 0 Q (F0 m 3 ls []) := by
  obtain ⟨hx, hb, -, -, hown, hts, -⟩ := id X
  intro fu
  induction fu with
  | zero =>
    intro S v3 v4 v5 R H locs ls hf
    cases (show (none : Option GS) = some R from hf)
  | succ fu ih =>
    intro S v3 v4 v5 R H locs ls hf hP hS hl kk
    rw [fX9_carries_9_29_3] at hf
    refine lv_iload hx hb dX9_carries_3 (lv_at hl 4 rfl) ?_
    refine lv_bipush (v := 16) hx hb dX9_carries_5 (by decide) ?_
    refine lv_icmp_ge (tgt := 44) hx hb dX9_carries_7 (by decide) (fun c1 => ?_) (fun c1 => ?_)
    · have hf := g_ift hf c1
      obtain rfl := g_some hf
      exact kk _ _ _ hP hS (lv_sub hl [2] rfl)
    · have hf := g_iff hf c1
      refine lv_iload hx hb dX9_carries_10 (lv_at hl 3 rfl) ?_
      refine lv_if_eq (tgt := 28) hx hb dX9_carries_12 (by decide) (fun c2 => ?_) (fun c2 => ?_)
      · have hf := g_ift hf c2
        refine lv_aload_n hx hb dX9_carries_28 rfl (lv_at hl 1 rfl) ?_
        refine lv_iload_n hx hb dX9_carries_29 rfl (lv_at hl 2 rfl) ?_
        refine lv_iload hx hb dX9_carries_30 (lv_at hl 4 rfl) ?_
        refine lv_iadd hx hb dX9_carries_32 ?_
        refine lv_aload_n hx hb dX9_carries_33 rfl (lv_at hl 0 rfl) ?_
        refine lv_iload hx hb dX9_carries_34 (lv_at hl 4 rfl) ?_
        obtain ⟨b3, hf⟩ := g_if hf
        refine giM_9 X E hP b3 dX9_carries_36 ?_
        obtain ⟨b4, hf⟩ := g_if hf
        refine gsM_29 X E hP hS b4 dX9_carries_37 (fun H locs hP hS => ?_)
        refine lv_iinc (v := (v5 + 1)) (lv' := [(5, .int (v5 + 1)), (1, .ref (ga G 9)), (2, .ref (ga G 29)), (3, .int v3), (4, .int v4)]) hx hb dX9_carries_38 hl (k := 4) rfl rfl (by decide) rfl (fun ls hl => ?_)
        refine lv_goto (tgt := 3) hx hb dX9_carries_41 (by decide) ?_
        exact ih _ _ _ _ _ _ _ _ hf hP hS (lv_sub hl [1, 2, 3, 4, 0] rfl) kk
      · have hf := g_iff hf c2
        refine lv_aload_n hx hb dX9_carries_15 rfl (lv_at hl 0 rfl) ?_
        refine lv_iload hx hb dX9_carries_16 (lv_at hl 4 rfl) ?_
        refine lv_aload_n hx hb dX9_carries_18 rfl (lv_at hl 1 rfl) ?_
        refine lv_iload_n hx hb dX9_carries_19 rfl (lv_at hl 2 rfl) ?_
        refine lv_iload hx hb dX9_carries_20 (lv_at hl 4 rfl) ?_
        refine lv_iadd hx hb dX9_carries_22 ?_
        obtain ⟨b5, hf⟩ := g_if hf
        refine giM_29 X E hP b5 dX9_carries_23 ?_
        obtain ⟨b6, hf⟩ := g_if hf
        refine gsM_9 X E hP hS b6 dX9_carries_24 (fun H locs hP hS => ?_)
        refine lv_goto (tgt := 38) hx hb dX9_carries_25 (by decide) ?_
        refine lv_iinc (v := (v5 + 1)) (lv' := [(5, .int (v5 + 1)), (1, .ref (ga G 9)), (2, .ref (ga G 29)), (3, .int v3), (4, .int v4)]) hx hb dX9_carries_38 hl (k := 4) rfl rfl (by decide) rfl (fun ls hl => ?_)
        refine lv_goto (tgt := 3) hx hb dX9_carries_41 (by decide) ?_
        exact ih _ _ _ _ _ _ _ _ hf hP hS (lv_sub hl [1, 2, 3, 4, 0] rfl) kk
def fX9_carries_9_29 (S : GS) (a1 : Int32) (a2 : Int32) : Option (Int32 × GS) :=
  (fX9_carries_9_29_3 gFuel S a1 a2 (0 : Int32)).bind fun u7 =>
  some ((a1 + (16 : Int32)), u7)
set_option maxHeartbeats 4000000 in
set_option maxRecDepth 100000 in
theorem tcX9_carries_9_29 (l : Launch) (G : GP) (S : GS) (a1 : Int32) (a2 : Int32) {R : (Int32 × GS)} (hf : fX9_carries_9_29 S a1 a2 = some R) : CI l yX9_carries wsX9_carries 0 0 [.ref (ga G 63), .ref (ga G 9), .ref (ga G 29), .int a1, .int a2] WM G S R.1 R.2 := by
  refine g_met RX9 (cc := cX9_carries) (nL := 6) (ret := (some .int)) (by decide) rfl rfl (Nat.le_of_ble_eq_true rfl) ?_
  intro p e s m below meth c ls X E hP hS hl
  have hl : lv_has ls 6 [(0, .ref (ga G 63)), (1, .ref (ga G 9)), (2, .ref (ga G 29)), (3, .int a1), (4, .int a2)] := hl
  obtain ⟨hx, hb, -, -, hown, hts, -⟩ := id X
  rw [fX9_carries_9_29] at hf
  refine lv_iconst (v := 0) hx hb dX9_carries_0 (by decide) ?_
  refine lv_istore (lv' := [(5, .int (0 : Int32)), (0, .ref (ga G 63)), (1, .ref (ga G 9)), (2, .ref (ga G 29)), (3, .int a1), (4, .int a2)]) hx hb dX9_carries_1 hl (by decide) rfl (fun ls hl => ?_)
  obtain ⟨u7, h8, hf⟩ := g_bind hf
  refine bX9_carries_9_29_3 X E gFuel _ _ _ _ u7 _ _ _ h8 hP hS (lv_sub hl [2, 3, 4, 5, 0] rfl) (fun H locs ls hP hS hl => ?_)
  have hl : lv_has ls 6 [(3, .int a1)] := hl
  have hP : va_P (gD G) vwCl (WM G u7 ++ gF G) H := hP
  refine lv_iload_n hx hb dX9_carries_44 rfl (lv_at hl 0 rfl) ?_
  refine lv_bipush (v := 16) hx hb dX9_carries_45 (by decide) ?_
  refine lv_iadd hx hb dX9_carries_47 ?_
  obtain rfl := g_some hf
  exact g_ri X E hP hS dX9_carries_48
