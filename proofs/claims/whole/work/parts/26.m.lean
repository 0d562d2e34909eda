theorem hdX9_apart : yX9_apart.cls = RX9 ∧ yX9_apart.cls ≠ "java/lang/invoke/MethodHandle" ∧ yX9_apart.cls ≠ "java/lang/invoke/VarHandle" ∧ (parseMethodDescriptor yX9_apart.desc).map (fun d => d.parameters.length) = some 3 := by decide +kernel
theorem hdX9_areAlike : yX9_areAlike.cls = RX9 ∧ yX9_areAlike.cls ≠ "java/lang/invoke/MethodHandle" ∧ yX9_areAlike.cls ≠ "java/lang/invoke/VarHandle" ∧ (parseMethodDescriptor yX9_areAlike.desc).map (fun d => d.parameters.length) = some 4 := by decide +kernel
theorem hdX9_intAt : yX9_intAt.cls = RX9 ∧ yX9_intAt.cls ≠ "java/lang/invoke/MethodHandle" ∧ yX9_intAt.cls ≠ "java/lang/invoke/VarHandle" ∧ (parseMethodDescriptor yX9_intAt.desc).map (fun d => d.parameters.length) = some 2 := by decide +kernel
theorem hdX9_noTen : yX9_noTen.cls = RX9 ∧ yX9_noTen.cls ≠ "java/lang/invoke/MethodHandle" ∧ yX9_noTen.cls ≠ "java/lang/invoke/VarHandle" ∧ (parseMethodDescriptor yX9_noTen.desc).map (fun d => d.parameters.length) = some 1 := by decide +kernel
theorem hdX9_slipsOf : yX9_slipsOf.cls = RX9 ∧ yX9_slipsOf.cls ≠ "java/lang/invoke/MethodHandle" ∧ yX9_slipsOf.cls ≠ "java/lang/invoke/VarHandle" ∧ (parseMethodDescriptor yX9_slipsOf.desc).map (fun d => d.parameters.length) = some 2 := by decide +kernel
theorem hdX9_weight : yX9_weight.cls = RX9 ∧ yX9_weight.cls ≠ "java/lang/invoke/MethodHandle" ∧ yX9_weight.cls ≠ "java/lang/invoke/VarHandle" ∧ (parseMethodDescriptor yX9_weight.desc).map (fun d => d.parameters.length) = some 1 := by decide +kernel
theorem hdX9_yards : yX9_yards.cls = RX9 ∧ yX9_yards.cls ≠ "java/lang/invoke/MethodHandle" ∧ yX9_yards.cls ≠ "java/lang/invoke/VarHandle" ∧ (parseMethodDescriptor yX9_yards.desc).map (fun d => d.parameters.length) = some 2 := by decide +kernel
theorem lkX9_big_0 : Cond.fieldLink RX9 212 RX9 "found" "I" ∈ wsX9_big := by decide +kernel
theorem lkX9_big_1 : Cond.fieldLink RX9 91 RX9 "many" "I" ∈ wsX9_big := by decide +kernel
theorem lkX9_big_2 : Cond.fieldLink RX9 224 RX9 "foundAs" "I" ∈ wsX9_big := by decide +kernel
theorem lkX9_big_3 : Cond.fieldLink RX9 221 RX9 "foundSort" "I" ∈ wsX9_big := by decide +kernel
theorem lkX9_big_4 : Cond.fieldLink RX9 218 RX9 "foundWhich" "I" ∈ wsX9_big := by decide +kernel
theorem lkX9_big_5 : Cond.fieldLink RX9 215 RX9 "foundAt" "I" ∈ wsX9_big := by decide +kernel
theorem inX9_big_X9 : ∀ w ∈ wsX90, w ∈ wsX9_big := by decide +kernel
def fX9_big_24 : Nat → GS → Int32 → Option GS
  | 0, _, _ => none
  | fu + 1, S, v2 =>
    if (S.1 0) ≤ v2 then
      some S
    else
      (fX9_slipsOf S v2 (0 : Int32)).bind fun u6 =>
      (fX9_slipsOf u6 v2 (1 : Int32)).bind fun u8 =>
      fX9_big_24 fu u8 (v2 + 1)
set_option maxHeartbeats 4000000 in
set_option maxRecDepth 100000 in
theorem bX9_big_24 {p : Program} {l : Launch} {e : Env} {s : State} {m : MethodId} {args : Array Value} {below : List Frame} {meth : Method} {c : Code} {Q : State → Prop} {G : GP} (X : GX p s m meth c args cX9_big 3 (some .int) wsX9_big RX9) (E : gE WM G s) {v1 : Int32} : ∀ (fu : Nat) (S : GS) (v2 : Int32) (R : GS) (H : Heap) (locs : List Loc) (ls : Array Slot) (_ : fX9_big_24 fu S v2 = some R) (_ : va_P (gD G) vwCl (WM G S ++ gF G) H) (_ : va_S (gA G) s.heap H locs) (_ : lv_has ls 3 [(0, .ref (ga G 63)), (1, .int v1), (2, .int v2)]) (_ : ∀ (H : Heap) (locs : List Loc) (ls : Array Slot), va_P (gD G) vwCl (WM G R ++ gF G) H → va_S (gA G) s.heap H locs → lv_has ls 3 [(0, .ref (ga G 63)), (1, .int v1)] → W p l e (gR 7 161) s m args below meth c H locs 0 0 Q (F0 m 50 ls [])), W p l e (gR 7 161) s m args below meth c H locs 0 0 Q (F0 m 24 ls []) := by
  obtain ⟨hx, hb, -, -, hown, hts, -⟩ := id X
  intro fu
  induction fu with
  | zero =>
    intro S v2 R H locs ls hf
    cases (show (none : Option GS) = some R from hf)
  | succ fu ih =>
    intro S v2 R H locs ls hf hP hS hl kk
    rw [fX9_big_24] at hf
    refine lv_iload_n hx hb dX9_big_24 rfl (lv_at hl 2 rfl) ?_
    refine lv_aload_n hx hb dX9_big_25 rfl (lv_at hl 0 rfl) ?_
    refine ggM_0 X E hP inX9_big_X9 lkX9_big_1 dX9_big_26 ?_
    refine lv_icmp_ge (tgt := 50) hx hb dX9_big_29 (by decide) (fun c5 => ?_) (fun c5 => ?_)
    · have hf := g_ift hf c5
      obtain rfl := g_some hf
      exact kk _ _ _ hP hS (lv_sub hl [0, 1] rfl)
    · have hf := g_iff hf c5
      refine lv_aload_n hx hb dX9_big_32 rfl (lv_at hl 0 rfl) ?_
      refine lv_iload_n hx hb dX9_big_33 rfl (lv_at hl 2 rfl) ?_
      refine lv_iconst (v := 0) hx hb dX9_big_34 (by decide) ?_
      obtain ⟨u6, h7, hf⟩ := g_bind hf
      refine g_vv (rest := []) X E hP hS (tcX9_slipsOf l G _ _ _ h7) (g_cwV X gX9_big_X9_slipsOf rfl hdX9_slipsOf ⟨Nat.le_of_ble_eq_true rfl, Nat.le_of_ble_eq_true rfl⟩) (rcM_model E hP) rfl hl.1 rfl (Nat.le_of_ble_eq_true rfl) dX9_big_35 ⟨Nat.le_refl _, Nat.le_refl _⟩ (fun H locs hP hS => ?_)
      refine lv_aload_n hx hb dX9_big_38 rfl (lv_at hl 0 rfl) ?_
      refine lv_iload_n hx hb dX9_big_39 rfl (lv_at hl 2 rfl) ?_
      refine lv_iconst (v := 1) hx hb dX9_big_40 (by decide) ?_
      obtain ⟨u8, h9, hf⟩ := g_bind hf
      refine g_vv (rest := []) X E hP hS (tcX9_slipsOf l G _ _ _ h9) (g_cwV X gX9_big_X9_slipsOf rfl hdX9_slipsOf ⟨Nat.le_of_ble_eq_true rfl, Nat.le_of_ble_eq_true rfl⟩) (rcM_model E hP) rfl hl.1 rfl (Nat.le_of_ble_eq_true rfl) dX9_big_41 ⟨Nat.le_refl _, Nat.le_refl _⟩ (fun H locs hP hS => ?_)
      refine lv_iinc (v := (v2 + 1)) (lv' := [(2, .int (v2 + 1)), (0, .ref (ga G 63)), (1, .int v1)]) hx hb dX9_big_44 hl (k := 2) rfl rfl (by decide) rfl (fun ls hl => ?_)
      refine lv_goto (tgt := 24) hx hb dX9_big_47 (by decide) ?_
      exact ih _ _ _ _ _ _ hf hP hS (lv_sub hl [1, 2, 0] rfl) kk
def fX9_big (S : GS) (a1 : Int32) : Option (Int32 × GS) :=
  if a1 < (-1 : Int32) then
    (fX9_no S (-5 : Int32)).bind fun u2 =>
    some (u2.1, u2.2)
  else
    if a1 ≤ (3 : Int32) then
      (fX9_big_24 gFuel (gU1 S 32 (0 : Int32)) (0 : Int32)).bind fun u10 =>
      if a1 = (-1 : Int32) then
        some ((u10.1 32), u10)
      else
        if (u10.1 32) = 0 then
          (fX9_no u10 (-5 : Int32)).bind fun u17 =>
          some (u17.1, u17.2)
        else
          if a1 = 0 then
            some ((u10.1 33), u10)
          else
            if a1 = (1 : Int32) then
              some ((u10.1 34), u10)
            else
              if a1 = (2 : Int32) then
                some ((u10.1 35), u10)
              else
                some ((u10.1 36), u10)
    else
      (fX9_no S (-5 : Int32)).bind fun u19 =>
      some (u19.1, u19.2)
set_option maxHeartbeats 4000000 in
set_option maxRecDepth 100000 in
theorem tcX9_big (l : Launch) (G : GP) (S : GS) (a1 : Int32) {R : (Int32 × GS)} (hf : fX9_big S a1 = some R) : CI l yX9_big wsX9_big 7 161 [.ref (ga G 63), .int a1] WM G S R.1 R.2 := by
  refine g_met RX9 (cc := cX9_big) (nL := 3) (ret := (some .int)) (by decide) rfl rfl (Nat.le_of_ble_eq_true rfl) ?_
  intro p e s m below meth c ls X E hP hS hl
  have hl : lv_has ls 3 [(0, .ref (ga G 63)), (1, .int a1)] := hl
  obtain ⟨hx, hb, -, -, hown, hts, -⟩ := id X
  rw [fX9_big] at hf
  refine lv_iload_n hx hb dX9_big_0 rfl (lv_at hl 1 rfl) ?_
  refine lv_iconst (v := -1) hx hb dX9_big_1 (by decide) ?_
  refine lv_icmp_lt (tgt := 10) hx hb dX9_big_2 (by decide) (fun c1 => ?_) (fun c1 => ?_)
  · have hf := g_ift hf c1
    refine lv_aload_n hx hb dX9_big_10 rfl (lv_at hl 0 rfl) ?_
    refine lv_bipush (v := -5) hx hb dX9_big_11 (by decide) ?_
    obtain ⟨u2, h3, hf⟩ := g_bind hf
    refine g_vi (rest := []) X E hP hS (tcX9_no l G _ _ h3) (g_cwV X gX9_big_X9_no rfl hdX9_no ⟨Nat.le_of_ble_eq_true rfl, Nat.le_of_ble_eq_true rfl⟩) (rcM_model E hP) rfl hl.1 rfl (Nat.le_of_ble_eq_true rfl) dX9_big_13 ⟨Nat.le_refl _, Nat.le_refl _⟩ (fun H locs hP hS => ?_)
    obtain rfl := g_some hf
    exact g_ri X E hP hS dX9_big_16
  · have hf := g_iff hf c1
    refine lv_iload_n hx hb dX9_big_5 rfl (lv_at hl 1 rfl) ?_
    refine lv_iconst (v := 3) hx hb dX9_big_6 (by decide) ?_
    refine lv_icmp_le (tgt := 17) hx hb dX9_big_7 (by decide) (fun c4 => ?_) (fun c4 => ?_)
    · have hf := g_ift hf c4
      refine lv_aload_n hx hb dX9_big_17 rfl (lv_at hl 0 rfl) ?_
      refine lv_iconst (v := 0) hx hb dX9_big_18 (by decide) ?_
      refine gpM_32 X E hP hS inX9_big_X9 lkX9_big_0 dX9_big_19 (fun H locs hP hS => ?_)
      refine lv_iconst (v := 0) hx hb dX9_big_22 (by decide) ?_
      refine lv_istore_n (lv' := [(2, .int (0 : Int32)), (0, .ref (ga G 63)), (1, .int a1)]) hx hb dX9_big_23 rfl hl (by decide) rfl (fun ls hl => ?_)
      obtain ⟨u10, h11, hf⟩ := g_bind hf
      refine bX9_big_24 X E gFuel _ _ u10 _ _ _ h11 hP hS (lv_sub hl [1, 2, 0] rfl) (fun H locs ls hP hS hl => ?_)
      have hl : lv_has ls 3 [(0, .ref (ga G 63)), (1, .int a1)] := hl
      have hP : va_P (gD G) vwCl (WM G u10 ++ gF G) H := hP
      refine lv_iload_n hx hb dX9_big_50 rfl (lv_at hl 1 rfl) ?_
      refine lv_iconst (v := -1) hx hb dX9_big_51 (by decide) ?_
      refine lv_icmp_ne (tgt := 60) hx hb dX9_big_52 (by decide) (fun c12 => ?_) (fun c12 => ?_)
      · have hf := g_iff hf c12
        refine lv_aload_n hx hb dX9_big_60 rfl (lv_at hl 0 rfl) ?_
        refine ggM_32 X E hP inX9_big_X9 lkX9_big_0 dX9_big_61 ?_
        refine lv_if_ne (tgt := 74) hx hb dX9_big_64 (by decide) (fun c13 => ?_) (fun c13 => ?_)
        · have hf := g_iff hf c13
          refine lv_iload_n hx hb dX9_big_74 rfl (lv_at hl 1 rfl) ?_
          refine lv_if_ne (tgt := 85) hx hb dX9_big_75 (by decide) (fun c14 => ?_) (fun c14 => ?_)
          · have hf := g_iff hf c14
            refine lv_iload_n hx hb dX9_big_85 rfl (lv_at hl 1 rfl) ?_
            refine lv_iconst (v := 1) hx hb dX9_big_86 (by decide) ?_
            refine lv_icmp_ne (tgt := 97) hx hb dX9_big_87 (by decide) (fun c15 => ?_) (fun c15 => ?_)
            · have hf := g_iff hf c15
              refine lv_iload_n hx hb dX9_big_97 rfl (lv_at hl 1 rfl) ?_
              refine lv_iconst (v := 2) hx hb dX9_big_98 (by decide) ?_
              refine lv_icmp_ne (tgt := 109) hx hb dX9_big_99 (by decide) (fun c16 => ?_) (fun c16 => ?_)
              · have hf := g_iff hf c16
                refine lv_aload_n hx hb dX9_big_109 rfl (lv_at hl 0 rfl) ?_
                refine ggM_36 X E hP inX9_big_X9 lkX9_big_2 dX9_big_110 ?_
                obtain rfl := g_some hf
                exact g_ri X E hP hS dX9_big_113
              · have hf := g_ift hf c16
                refine lv_aload_n hx hb dX9_big_102 rfl (lv_at hl 0 rfl) ?_
                refine ggM_35 X E hP inX9_big_X9 lkX9_big_3 dX9_big_103 ?_
                refine lv_goto (tgt := 113) hx hb dX9_big_106 (by decide) ?_
                obtain rfl := g_some hf
                exact g_ri X E hP hS dX9_big_113
            · have hf := g_ift hf c15
              refine lv_aload_n hx hb dX9_big_90 rfl (lv_at hl 0 rfl) ?_
              refine ggM_34 X E hP inX9_big_X9 lkX9_big_4 dX9_big_91 ?_
              refine lv_goto (tgt := 113) hx hb dX9_big_94 (by decide) ?_
              obtain rfl := g_some hf
              exact g_ri X E hP hS dX9_big_113
          · have hf := g_ift hf c14
            refine lv_aload_n hx hb dX9_big_78 rfl (lv_at hl 0 rfl) ?_
            refine ggM_33 X E hP inX9_big_X9 lkX9_big_5 dX9_big_79 ?_
            refine lv_goto (tgt := 113) hx hb dX9_big_82 (by decide) ?_
            obtain rfl := g_some hf
            exact g_ri X E hP hS dX9_big_113
        · have hf := g_ift hf c13
          refine lv_aload_n hx hb dX9_big_67 rfl (lv_at hl 0 rfl) ?_
          refine lv_bipush (v := -5) hx hb dX9_big_68 (by decide) ?_
          obtain ⟨u17, h18, hf⟩ := g_bind hf
          refine g_vi (rest := []) X E hP hS (tcX9_no l G _ _ h18) (g_cwV X gX9_big_X9_no rfl hdX9_no ⟨Nat.le_of_ble_eq_true rfl, Nat.le_of_ble_eq_true rfl⟩) (rcM_model E hP) rfl hl.1 rfl (Nat.le_of_ble_eq_true rfl) dX9_big_70 ⟨Nat.le_refl _, Nat.le_refl _⟩ (fun H locs hP hS => ?_)
          obtain rfl := g_some hf
          exact g_ri X E hP hS dX9_big_73
      · have hf := g_ift hf c12
        refine lv_aload_n hx hb dX9_big_55 rfl (lv_at hl 0 rfl) ?_
        refine ggM_32 X E hP inX9_big_X9 lkX9_big_0 dX9_big_56 ?_
        obtain rfl := g_some hf
        exact g_ri X E hP hS dX9_big_59
    · have hf := g_iff hf c4
      refine lv_aload_n hx hb dX9_big_10 rfl (lv_at hl 0 rfl) ?_
      refine lv_bipush (v := -5) hx hb dX9_big_11 (by decide) ?_
      obtain ⟨u19, h20, hf⟩ := g_bind hf
      refine g_vi (rest := []) X E hP hS (tcX9_no l G _ _ h20) (g_cwV X gX9_big_X9_no rfl hdX9_no ⟨Nat.le_of_ble_eq_true rfl, Nat.le_of_ble_eq_true rfl⟩) (rcM_model E hP) rfl hl.1 rfl (Nat.le_of_ble_eq_true rfl) dX9_big_13 ⟨Nat.le_refl _, Nat.le_refl _⟩ (fun H locs hP hS => ?_)
      obtain rfl := g_some hf
      exact g_ri X E hP hS dX9_big_16
theorem lkX9_intAt_0 : Cond.fieldLink RX9 62 RX9 "cells" "[J" ∈ wsX9_intAt := by decide +kernel
theorem inX9_intAt_X9 : ∀ w ∈ wsX90, w ∈ wsX9_intAt := by decide +kernel
def fX9_intAt (S : GS) (a1 : Int32) (a2 : Int32) : Option Int32 :=
  if (((160 : Int32) * a1) + a2) < 0 ∨ 1280 ≤ (((160 : Int32) * a1) + a2).toNatClampNeg then none else
  some ((S.2.2.2 19 (((160 : Int32) * a1) + a2).toNatClampNeg)).toInt32
set_option maxHeartbeats 4000000 in
set_option maxRecDepth 100000 in
theorem tcX9_intAt (l : Launch) (G : GP) (S : GS) (a1 : Int32) (a2 : Int32) {R : Int32} (hf : fX9_intAt S a1 a2 = some R) : CI l yX9_intAt wsX9_intAt 0 0 [.ref (ga G 63), .int a1, .int a2] WM G S R S := by
  refine g_met RX9 (cc := cX9_intAt) (nL := 3) (ret := (some .int)) (by decide) rfl rfl (Nat.le_of_ble_eq_true rfl) ?_
  intro p e s m below meth c ls X E hP hS hl
  have hl : lv_has ls 3 [(0, .ref (ga G 63)), (1, .int a1), (2, .int a2)] := hl
  obtain ⟨hx, hb, -, -, hown, hts, -⟩ := id X
  rw [fX9_intAt] at hf
  refine lv_aload_n hx hb dX9_intAt_0 rfl (lv_at hl 0 rfl) ?_
  refine ggM_19 X E hP inX9_intAt_X9 lkX9_intAt_0 dX9_intAt_1 ?_
  refine lv_sipush (v := 160) hx hb dX9_intAt_4 (by decide) ?_
  refine lv_iload_n hx hb dX9_intAt_7 rfl (lv_at hl 1 rfl) ?_
  refine lv_imul hx hb dX9_intAt_8 ?_
  refine lv_iload_n hx hb dX9_intAt_9 rfl (lv_at hl 2 rfl) ?_
  refine lv_iadd hx hb dX9_intAt_10 ?_
  obtain ⟨b1, hf⟩ := g_if hf
  refine giM_19 X E hP b1 dX9_intAt_11 ?_
  refine lv_l2i hx hb dX9_intAt_12 rfl ?_
  obtain rfl := g_some hf
  exact g_ri X E hP hS dX9_intAt_13
theorem lkX9_parts_0 : Cond.fieldLink RX9 134 RX9 "start" "I" ∈ wsX9_parts := by decide +kernel
theorem lkX9_parts_1 : Cond.fieldLink RX9 91 RX9 "many" "I" ∈ wsX9_parts := by decide +kernel
theorem lkX9_parts_2 : Cond.fieldLink RX9 56 RX9 "size" "[I" ∈ wsX9_parts := by decide +kernel
theorem inX9_parts_X9 : ∀ w ∈ wsX90, w ∈ wsX9_parts := by decide +kernel
def fX9_parts_70 : Nat → GS → Int32 → Int32 → Int32 → Int32 → Int64 → Int32 → Option (Int32 × Int64)
  | 0, _, _, _, _, _, _, _ => none
  | fu + 1, S, v1, v4, v5, v6, v7, v9 =>
    if (S.1 0) < v9 then
      some (v6, v7)
    else
      if v9 = (S.1 0) then
        if (S.1 1) = (-32768 : Int32) then
          if (S.1 0) ≤ v9 then
            (fX9_rises S v4 v9).bind fun u43 =>
            if v6 = (-1 : Int32) then
              fX9_parts_70 fu S v1 v9 (S.1 1) v4 ((u43).toInt64 - (((S.1 1)).toInt64 - (v5).toInt64)) (v9 + 1)
            else
              if 0 ≤ (lg_cmp ((u43).toInt64 - (((S.1 1)).toInt64 - (v5).toInt64)) (0 : Int64)) then
                if 0 ≤ (lg_cmp v7 (0 : Int64)) then
                  if (lg_cmp ((u43).toInt64 - (((S.1 1)).toInt64 - (v5).toInt64)) v7) ≤ 0 then
                    fX9_parts_70 fu S v1 v9 (S.1 1) v6 v7 (v9 + 1)
                  else
                    fX9_parts_70 fu S v1 v9 (S.1 1) v4 ((u43).toInt64 - (((S.1 1)).toInt64 - (v5).toInt64)) (v9 + 1)
                else
                  if (lg_cmp ((u43).toInt64 - (((S.1 1)).toInt64 - (v5).toInt64)) (-v7)) ≤ 0 then
                    fX9_parts_70 fu S v1 v9 (S.1 1) v6 v7 (v9 + 1)
                  else
                    fX9_parts_70 fu S v1 v9 (S.1 1) v4 ((u43).toInt64 - (((S.1 1)).toInt64 - (v5).toInt64)) (v9 + 1)
              else
                if 0 ≤ (lg_cmp v7 (0 : Int64)) then
                  if (lg_cmp (-((u43).toInt64 - (((S.1 1)).toInt64 - (v5).toInt64))) v7) ≤ 0 then
                    fX9_parts_70 fu S v1 v9 (S.1 1) v6 v7 (v9 + 1)
                  else
                    fX9_parts_70 fu S v1 v9 (S.1 1) v4 ((u43).toInt64 - (((S.1 1)).toInt64 - (v5).toInt64)) (v9 + 1)
                else
                  if (lg_cmp (-((u43).toInt64 - (((S.1 1)).toInt64 - (v5).toInt64))) (-v7)) ≤ 0 then
                    fX9_parts_70 fu S v1 v9 (S.1 1) v6 v7 (v9 + 1)
                  else
                    fX9_parts_70 fu S v1 v9 (S.1 1) v4 ((u43).toInt64 - (((S.1 1)).toInt64 - (v5).toInt64)) (v9 + 1)
          else
            fX9_parts_70 fu S v1 v4 v5 v6 v7 (v9 + 1)
        else
          (fX9_rises S v4 v9).bind fun u32 =>
          if v6 = (-1 : Int32) then
            fX9_parts_70 fu S v1 v9 (S.1 1) v4 ((u32).toInt64 - (((S.1 1)).toInt64 - (v5).toInt64)) (v9 + 1)
          else
            if 0 ≤ (lg_cmp ((u32).toInt64 - (((S.1 1)).toInt64 - (v5).toInt64)) (0 : Int64)) then
              if 0 ≤ (lg_cmp v7 (0 : Int64)) then
                if (lg_cmp ((u32).toInt64 - (((S.1 1)).toInt64 - (v5).toInt64)) v7) ≤ 0 then
                  fX9_parts_70 fu S v1 v9 (S.1 1) v6 v7 (v9 + 1)
                else
                  fX9_parts_70 fu S v1 v9 (S.1 1) v4 ((u32).toInt64 - (((S.1 1)).toInt64 - (v5).toInt64)) (v9 + 1)
              else
                if (lg_cmp ((u32).toInt64 - (((S.1 1)).toInt64 - (v5).toInt64)) (-v7)) ≤ 0 then
                  fX9_parts_70 fu S v1 v9 (S.1 1) v6 v7 (v9 + 1)
                else
                  fX9_parts_70 fu S v1 v9 (S.1 1) v4 ((u32).toInt64 - (((S.1 1)).toInt64 - (v5).toInt64)) (v9 + 1)
            else
              if 0 ≤ (lg_cmp v7 (0 : Int64)) then
                if (lg_cmp (-((u32).toInt64 - (((S.1 1)).toInt64 - (v5).toInt64))) v7) ≤ 0 then
                  fX9_parts_70 fu S v1 v9 (S.1 1) v6 v7 (v9 + 1)
                else
                  fX9_parts_70 fu S v1 v9 (S.1 1) v4 ((u32).toInt64 - (((S.1 1)).toInt64 - (v5).toInt64)) (v9 + 1)
              else
                if (lg_cmp (-((u32).toInt64 - (((S.1 1)).toInt64 - (v5).toInt64))) (-v7)) ≤ 0 then
                  fX9_parts_70 fu S v1 v9 (S.1 1) v6 v7 (v9 + 1)
                else
                  fX9_parts_70 fu S v1 v9 (S.1 1) v4 ((u32).toInt64 - (((S.1 1)).toInt64 - (v5).toInt64)) (v9 + 1)
      else
        (fX9_intAt S v1 v9).bind fun u7 =>
        if u7 = (-32768 : Int32) then
          if (S.1 0) ≤ v9 then
            (fX9_rises S v4 v9).bind fun u21 =>
            if v6 = (-1 : Int32) then
              fX9_parts_70 fu S v1 v9 u7 v4 ((u21).toInt64 - ((u7).toInt64 - (v5).toInt64)) (v9 + 1)
            else
              if 0 ≤ (lg_cmp ((u21).toInt64 - ((u7).toInt64 - (v5).toInt64)) (0 : Int64)) then
                if 0 ≤ (lg_cmp v7 (0 : Int64)) then
                  if (lg_cmp ((u21).toInt64 - ((u7).toInt64 - (v5).toInt64)) v7) ≤ 0 then
                    fX9_parts_70 fu S v1 v9 u7 v6 v7 (v9 + 1)
                  else
                    fX9_parts_70 fu S v1 v9 u7 v4 ((u21).toInt64 - ((u7).toInt64 - (v5).toInt64)) (v9 + 1)
                else
                  if (lg_cmp ((u21).toInt64 - ((u7).toInt64 - (v5).toInt64)) (-v7)) ≤ 0 then
                    fX9_parts_70 fu S v1 v9 u7 v6 v7 (v9 + 1)
                  else
                    fX9_parts_70 fu S v1 v9 u7 v4 ((u21).toInt64 - ((u7).toInt64 - (v5).toInt64)) (v9 + 1)
              else
                if 0 ≤ (lg_cmp v7 (0 : Int64)) then
                  if (lg_cmp (-((u21).toInt64 - ((u7).toInt64 - (v5).toInt64))) v7) ≤ 0 then
                    fX9_parts_70 fu S v1 v9 u7 v6 v7 (v9 + 1)
                  else
                    fX9_parts_70 fu S v1 v9 u7 v4 ((u21).toInt64 - ((u7).toInt64 - (v5).toInt64)) (v9 + 1)
                else
                  if (lg_cmp (-((u21).toInt64 - ((u7).toInt64 - (v5).toInt64))) (-v7)) ≤ 0 then
                    fX9_parts_70 fu S v1 v9 u7 v6 v7 (v9 + 1)
                  else
                    fX9_parts_70 fu S v1 v9 u7 v4 ((u21).toInt64 - ((u7).toInt64 - (v5).toInt64)) (v9 + 1)
          else
            fX9_parts_70 fu S v1 v4 v5 v6 v7 (v9 + 1)
        else
          (fX9_rises S v4 v9).bind fun u10 =>
          if v6 = (-1 : Int32) then
            fX9_parts_70 fu S v1 v9 u7 v4 ((u10).toInt64 - ((u7).toInt64 - (v5).toInt64)) (v9 + 1)
          else
            if 0 ≤ (lg_cmp ((u10).toInt64 - ((u7).toInt64 - (v5).toInt64)) (0 : Int64)) then
              if 0 ≤ (lg_cmp v7 (0 : Int64)) then
                if (lg_cmp ((u10).toInt64 - ((u7).toInt64 - (v5).toInt64)) v7) ≤ 0 then
                  fX9_parts_70 fu S v1 v9 u7 v6 v7 (v9 + 1)
                else
                  fX9_parts_70 fu S v1 v9 u7 v4 ((u10).toInt64 - ((u7).toInt64 - (v5).toInt64)) (v9 + 1)
              else
                if (lg_cmp ((u10).toInt64 - ((u7).toInt64 - (v5).toInt64)) (-v7)) ≤ 0 then
                  fX9_parts_70 fu S v1 v9 u7 v6 v7 (v9 + 1)
                else
                  fX9_parts_70 fu S v1 v9 u7 v4 ((u10).toInt64 - ((u7).toInt64 - (v5).toInt64)) (v9 + 1)
            else
              if 0 ≤ (lg_cmp v7 (0 : Int64)) then
                if (lg_cmp (-((u10).toInt64 - ((u7).toInt64 - (v5).toInt64))) v7) ≤ 0 then
                  fX9_parts_70 fu S v1 v9 u7 v6 v7 (v9 + 1)
                else
                  fX9_parts_70 fu S v1 v9 u7 v4 ((u10).toInt64 - ((u7).toInt64 - (v5).toInt64)) (v9 + 1)
              else
                if (lg_cmp (-((u10).toInt64 - ((u7).toInt64 - (v5).toInt64))) (-v7)) ≤ 0 then
                  fX9_parts_70 fu S v1 v9 u7 v6 v7 (v9 + 1)
                else
                  fX9_parts_70 fu S v1 v9 u7 v4 ((u10).toInt64 - ((u7).toInt64 - (v5).toInt64)) (v9 + 1)
set_option maxHeartbeats 4000000 in
set_option maxRecDepth 100000 in
theorem bX9_parts_70 {p : Program} {l : Launch} {e : Env} {s : State} {m : MethodId} {args : Array Value} {below : List Frame} {meth : Method} {c : Code} {Q : State → Prop} {G : GP} (X : GX p s m meth c args cX9_parts 13 (some .int) wsX9_parts RX9) (E : gE WM G s) {v2 : Int32} : ∀ (fu : Nat) (S : GS) (v1 : Int32) (v4 : Int32) (v5 : Int32) (v6 : Int32) (v7 : Int64) (v9 : Int32) (R : (Int32 × Int64)) (H : Heap) (locs : List Loc) (ls : Array Slot) (_ : fX9_parts_70 fu S v1 v4 v5 v6 v7 v9 = some R) (_ : va_P (gD G) vwCl (WM G S ++ gF G) H) (_ : va_S (gA G) s.heap H locs) (_ : lv_has ls 13 [(0, .ref (ga G 63)), (1, .int v1), (2, .int v2), (4, .int v4), (5, .int v5), (6, .int v6), (7, .long v7), (9, .int v9)]) (_ : ∀ (H : Heap) (locs : List Loc) (ls : Array Slot), va_P (gD G) vwCl (WM G S ++ gF G) H → va_S (gA G) s.heap H locs → lv_has ls 13 [(2, .int v2), (6, .int R.1), (7, .long R.2)] → W p l e (gR 4 88) s m args below meth c H locs 0 0 Q (F0 m 205 ls [])), W p l e (gR 4 88) s m args below meth c H locs 0 0 Q (F0 m 70 ls []) := by
  obtain ⟨hx, hb, -, -, hown, hts, -⟩ := id X
  intro fu
  induction fu with
  | zero =>
    intro S v1 v4 v5 v6 v7 v9 R H locs ls hf
    cases (show (none : Option (Int32 × Int64)) = some R from hf)
  | succ fu ih =>
    intro S v1 v4 v5 v6 v7 v9 R H locs ls hf hP hS hl kk
    rw [fX9_parts_70] at hf
    refine lv_iload hx hb dX9_parts_70 (lv_at hl 7 rfl) ?_
    refine lv_aload_n hx hb dX9_parts_72 rfl (lv_at hl 0 rfl) ?_
    refine ggM_0 X E hP inX9_parts_X9 lkX9_parts_1 dX9_parts_73 ?_
    refine lv_icmp_gt (tgt := 205) hx hb dX9_parts_76 (by decide) (fun c5 => ?_) (fun c5 => ?_)
    · have hf := g_ift hf c5
      obtain rfl := g_some hf
      exact kk _ _ _ hP hS (lv_sub hl [2, 5, 6] rfl)
    · have hf := g_iff hf c5
      refine lv_iload hx hb dX9_parts_79 (lv_at hl 7 rfl) ?_
      refine lv_aload_n hx hb dX9_parts_81 rfl (lv_at hl 0 rfl) ?_
      refine ggM_0 X E hP inX9_parts_X9 lkX9_parts_1 dX9_parts_82 ?_
      refine lv_icmp_ne (tgt := 95) hx hb dX9_parts_85 (by decide) (fun c6 => ?_) (fun c6 => ?_)
      · have hf := g_iff hf c6
        refine lv_aload_n hx hb dX9_parts_95 rfl (lv_at hl 0 rfl) ?_
        refine lv_iload_n hx hb dX9_parts_96 rfl (lv_at hl 1 rfl) ?_
        refine lv_iload hx hb dX9_parts_97 (lv_at hl 7 rfl) ?_
        obtain ⟨u7, h8, hf⟩ := g_bind hf
        refine g_vi (rest := []) X E hP hS (tcX9_intAt l G _ _ _ h8) (g_cwV X gX9_parts_X9_intAt rfl hdX9_intAt ⟨Nat.le_of_ble_eq_true rfl, Nat.le_of_ble_eq_true rfl⟩) (rcM_model E hP) rfl hl.1 rfl (Nat.le_of_ble_eq_true rfl) dX9_parts_99 ⟨Nat.le_refl _, Nat.le_refl _⟩ (fun H locs hP hS => ?_)
        refine lv_istore (lv' := [(10, .int u7), (0, .ref (ga G 63)), (1, .int v1), (2, .int v2), (4, .int v4), (5, .int v5), (6, .int v6), (7, .long v7), (9, .int v9)]) hx hb dX9_parts_102 hl (by decide) rfl (fun ls hl => ?_)
        refine lv_iload hx hb dX9_parts_104 (lv_at hl 0 rfl) ?_
        refine lv_sipush (v := -32768) hx hb dX9_parts_106 (by decide) ?_
        refine lv_icmp_ne (tgt := 124) hx hb dX9_parts_109 (by decide) (fun c9 => ?_) (fun c9 => ?_)
        · have hf := g_iff hf c9
          refine lv_aload_n hx hb dX9_parts_124 rfl (lv_at hl 1 rfl) ?_
          refine lv_iload hx hb dX9_parts_125 (lv_at hl 4 rfl) ?_
          refine lv_iload hx hb dX9_parts_127 (lv_at hl 8 rfl) ?_
          obtain ⟨u10, h11, hf⟩ := g_bind hf
          refine g_vi (rest := []) X E hP hS (tcX9_rises l G _ _ _ h11) (g_cwV X gX9_parts_X9_rises rfl hdX9_rises ⟨Nat.le_of_ble_eq_true rfl, Nat.le_of_ble_eq_true rfl⟩) (rcM_model E hP) rfl hl.1 rfl (Nat.le_of_ble_eq_true rfl) dX9_parts_129 ⟨Nat.le_refl _, Nat.le_refl _⟩ (fun H locs hP hS => ?_)
          refine lv_i2l hx hb dX9_parts_132 rfl ?_
          refine lv_iload hx hb dX9_parts_133 (lv_at hl 0 rfl) ?_
          refine lv_i2l hx hb dX9_parts_135 rfl ?_
          refine lv_iload hx hb dX9_parts_136 (lv_at hl 5 rfl) ?_
          refine lv_i2l hx hb dX9_parts_138 rfl ?_
          refine lv_lsub hx hb dX9_parts_139 ?_
          refine lv_lsub hx hb dX9_parts_140 ?_
          refine lv_lstore (lv' := [(11, .long ((u10).toInt64 - ((u7).toInt64 - (v5).toInt64))), (10, .int u7), (0, .ref (ga G 63)), (1, .int v1), (2, .int v2), (4, .int v4), (5, .int v5), (6, .int v6), (7, .long v7), (9, .int v9)]) hx hb dX9_parts_141 hl (by decide) rfl (fun ls hl => ?_)
          refine lv_iload hx hb dX9_parts_143 (lv_at hl 7 rfl) ?_
          refine lv_iconst (v := -1) hx hb dX9_parts_145 (by decide) ?_
          refine lv_icmp_eq (tgt := 183) hx hb dX9_parts_146 (by decide) (fun c12 => ?_) (fun c12 => ?_)
          · have hf := g_ift hf c12
            refine lv_iload hx hb dX9_parts_183 (lv_at hl 5 rfl) ?_
            refine lv_istore (lv' := [(6, .int v4), (11, .long ((u10).toInt64 - ((u7).toInt64 - (v5).toInt64))), (10, .int u7), (0, .ref (ga G 63)), (1, .int v1), (2, .int v2), (4, .int v4), (5, .int v5), (7, .long v7), (9, .int v9)]) hx hb dX9_parts_185 hl (by decide) rfl (fun ls hl => ?_)
            refine lv_lload hx hb dX9_parts_187 (lv_at hl 1 rfl) ?_
            refine lv_lstore (lv' := [(7, .long ((u10).toInt64 - ((u7).toInt64 - (v5).toInt64))), (6, .int v4), (11, .long ((u10).toInt64 - ((u7).toInt64 - (v5).toInt64))), (10, .int u7), (0, .ref (ga G 63)), (1, .int v1), (2, .int v2), (4, .int v4), (5, .int v5), (9, .int v9)]) hx hb dX9_parts_189 hl (by decide) rfl (fun ls hl => ?_)
            refine lv_iload hx hb dX9_parts_191 (lv_at hl 9 rfl) ?_
            refine lv_istore (lv' := [(4, .int v9), (7, .long ((u10).toInt64 - ((u7).toInt64 - (v5).toInt64))), (6, .int v4), (11, .long ((u10).toInt64 - ((u7).toInt64 - (v5).toInt64))), (10, .int u7), (0, .ref (ga G 63)), (1, .int v1), (2, .int v2), (5, .int v5), (9, .int v9)]) hx hb dX9_parts_193 hl (by decide) rfl (fun ls hl => ?_)
            refine lv_iload hx hb dX9_parts_195 (lv_at hl 4 rfl) ?_
            refine lv_istore (lv' := [(5, .int u7), (4, .int v9), (7, .long ((u10).toInt64 - ((u7).toInt64 - (v5).toInt64))), (6, .int v4), (11, .long ((u10).toInt64 - ((u7).toInt64 - (v5).toInt64))), (10, .int u7), (0, .ref (ga G 63)), (1, .int v1), (2, .int v2), (9, .int v9)]) hx hb dX9_parts_197 hl (by decide) rfl (fun ls hl => ?_)
            refine lv_iinc (v := (v9 + 1)) (lv' := [(9, .int (v9 + 1)), (5, .int u7), (4, .int v9), (7, .long ((u10).toInt64 - ((u7).toInt64 - (v5).toInt64))), (6, .int v4), (11, .long ((u10).toInt64 - ((u7).toInt64 - (v5).toInt64))), (10, .int u7), (0, .ref (ga G 63)), (1, .int v1), (2, .int v2)]) hx hb dX9_parts_199 hl (k := 9) rfl rfl (by decide) rfl (fun ls hl => ?_)
            refine lv_goto (tgt := 70) hx hb dX9_parts_202 (by decide) ?_
            exact ih _ _ _ _ _ _ _ _ _ _ _ hf hP hS (lv_sub hl [7, 8, 9, 2, 1, 4, 3, 0] rfl) kk
          · have hf := g_iff hf c12
            refine lv_lload hx hb dX9_parts_149 (lv_at hl 0 rfl) ?_
            refine lv_lconst (v := 0) hx hb dX9_parts_151 (by decide) ?_
            refine W.lcmp hx hb dX9_parts_152 ?_
            refine lv_if_ge (tgt := 162) hx hb dX9_parts_153 (by decide) (fun c13 => ?_) (fun c13 => ?_)
            · have hf := g_ift hf c13
              refine lv_lload hx hb dX9_parts_162 (lv_at hl 0 rfl) ?_
              refine lv_lload hx hb dX9_parts_164 (lv_at hl 8 rfl) ?_
              refine lv_lconst (v := 0) hx hb dX9_parts_166 (by decide) ?_
              refine W.lcmp hx hb dX9_parts_167 ?_
              refine lv_if_ge (tgt := 177) hx hb dX9_parts_168 (by decide) (fun c14 => ?_) (fun c14 => ?_)
              · have hf := g_ift hf c14
                refine lv_lload hx hb dX9_parts_177 (lv_at hl 8 rfl) ?_
                refine W.lcmp hx hb dX9_parts_179 ?_
                refine lv_if_le (tgt := 191) hx hb dX9_parts_180 (by decide) (fun c15 => ?_) (fun c15 => ?_)
                · have hf := g_ift hf c15
                  refine lv_iload hx hb dX9_parts_191 (lv_at hl 9 rfl) ?_
                  refine lv_istore (lv' := [(4, .int v9), (11, .long ((u10).toInt64 - ((u7).toInt64 - (v5).toInt64))), (10, .int u7), (0, .ref (ga G 63)), (1, .int v1), (2, .int v2), (5, .int v5), (6, .int v6), (7, .long v7), (9, .int v9)]) hx hb dX9_parts_193 hl (by decide) rfl (fun ls hl => ?_)
                  refine lv_iload hx hb dX9_parts_195 (lv_at hl 2 rfl) ?_
                  refine lv_istore (lv' := [(5, .int u7), (4, .int v9), (11, .long ((u10).toInt64 - ((u7).toInt64 - (v5).toInt64))), (10, .int u7), (0, .ref (ga G 63)), (1, .int v1), (2, .int v2), (6, .int v6), (7, .long v7), (9, .int v9)]) hx hb dX9_parts_197 hl (by decide) rfl (fun ls hl => ?_)
                  refine lv_iinc (v := (v9 + 1)) (lv' := [(9, .int (v9 + 1)), (5, .int u7), (4, .int v9), (11, .long ((u10).toInt64 - ((u7).toInt64 - (v5).toInt64))), (10, .int u7), (0, .ref (ga G 63)), (1, .int v1), (2, .int v2), (6, .int v6), (7, .long v7)]) hx hb dX9_parts_199 hl (k := 9) rfl rfl (by decide) rfl (fun ls hl => ?_)
                  refine lv_goto (tgt := 70) hx hb dX9_parts_202 (by decide) ?_
                  exact ih _ _ _ _ _ _ _ _ _ _ _ hf hP hS (lv_sub hl [5, 6, 7, 2, 1, 8, 9, 0] rfl) kk
                · have hf := g_iff hf c15
                  refine lv_iload hx hb dX9_parts_183 (lv_at hl 5 rfl) ?_
                  refine lv_istore (lv' := [(6, .int v4), (11, .long ((u10).toInt64 - ((u7).toInt64 - (v5).toInt64))), (10, .int u7), (0, .ref (ga G 63)), (1, .int v1), (2, .int v2), (4, .int v4), (5, .int v5), (7, .long v7), (9, .int v9)]) hx hb dX9_parts_185 hl (by decide) rfl (fun ls hl => ?_)
                  refine lv_lload hx hb dX9_parts_187 (lv_at hl 1 rfl) ?_
                  refine lv_lstore (lv' := [(7, .long ((u10).toInt64 - ((u7).toInt64 - (v5).toInt64))), (6, .int v4), (11, .long ((u10).toInt64 - ((u7).toInt64 - (v5).toInt64))), (10, .int u7), (0, .ref (ga G 63)), (1, .int v1), (2, .int v2), (4, .int v4), (5, .int v5), (9, .int v9)]) hx hb dX9_parts_189 hl (by decide) rfl (fun ls hl => ?_)
                  refine lv_iload hx hb dX9_parts_191 (lv_at hl 9 rfl) ?_
                  refine lv_istore (lv' := [(4, .int v9), (7, .long ((u10).toInt64 - ((u7).toInt64 - (v5).toInt64))), (6, .int v4), (11, .long ((u10).toInt64 - ((u7).toInt64 - (v5).toInt64))), (10, .int u7), (0, .ref (ga G 63)), (1, .int v1), (2, .int v2), (5, .int v5), (9, .int v9)]) hx hb dX9_parts_193 hl (by decide) rfl (fun ls hl => ?_)
                  refine lv_iload hx hb dX9_parts_195 (lv_at hl 4 rfl) ?_
                  refine lv_istore (lv' := [(5, .int u7), (4, .int v9), (7, .long ((u10).toInt64 - ((u7).toInt64 - (v5).toInt64))), (6, .int v4), (11, .long ((u10).toInt64 - ((u7).toInt64 - (v5).toInt64))), (10, .int u7), (0, .ref (ga G 63)), (1, .int v1), (2, .int v2), (9, .int v9)]) hx hb dX9_parts_197 hl (by decide) rfl (fun ls hl => ?_)
                  refine lv_iinc (v := (v9 + 1)) (lv' := [(9, .int (v9 + 1)), (5, .int u7), (4, .int v9), (7, .long ((u10).toInt64 - ((u7).toInt64 - (v5).toInt64))), (6, .int v4), (11, .long ((u10).toInt64 - ((u7).toInt64 - (v5).toInt64))), (10, .int u7), (0, .ref (ga G 63)), (1, .int v1), (2, .int v2)]) hx hb dX9_parts_199 hl (k := 9) rfl rfl (by decide) rfl (fun ls hl => ?_)
                  refine lv_goto (tgt := 70) hx hb dX9_parts_202 (by decide) ?_
                  exact ih _ _ _ _ _ _ _ _ _ _ _ hf hP hS (lv_sub hl [7, 8, 9, 2, 1, 4, 3, 0] rfl) kk
              · have hf := g_iff hf c14
                refine lv_lload hx hb dX9_parts_171 (lv_at hl 8 rfl) ?_
                refine lv_lneg hx hb dX9_parts_173 ?_
                refine lv_goto (tgt := 179) hx hb dX9_parts_174 (by decide) ?_
                refine W.lcmp hx hb dX9_parts_179 ?_
                refine lv_if_le (tgt := 191) hx hb dX9_parts_180 (by decide) (fun c16 => ?_) (fun c16 => ?_)
                · have hf := g_ift hf c16
                  refine lv_iload hx hb dX9_parts_191 (lv_at hl 9 rfl) ?_
                  refine lv_istore (lv' := [(4, .int v9), (11, .long ((u10).toInt64 - ((u7).toInt64 - (v5).toInt64))), (10, .int u7), (0, .ref (ga G 63)), (1, .int v1), (2, .int v2), (5, .int v5), (6, .int v6), (7, .long v7), (9, .int v9)]) hx hb dX9_parts_193 hl (by decide) rfl (fun ls hl => ?_)
                  refine lv_iload hx hb dX9_parts_195 (lv_at hl 2 rfl) ?_
                  refine lv_istore (lv' := [(5, .int u7), (4, .int v9), (11, .long ((u10).toInt64 - ((u7).toInt64 - (v5).toInt64))), (10, .int u7), (0, .ref (ga G 63)), (1, .int v1), (2, .int v2), (6, .int v6), (7, .long v7), (9, .int v9)]) hx hb dX9_parts_197 hl (by decide) rfl (fun ls hl => ?_)
                  refine lv_iinc (v := (v9 + 1)) (lv' := [(9, .int (v9 + 1)), (5, .int u7), (4, .int v9), (11, .long ((u10).toInt64 - ((u7).toInt64 - (v5).toInt64))), (10, .int u7), (0, .ref (ga G 63)), (1, .int v1), (2, .int v2), (6, .int v6), (7, .long v7)]) hx hb dX9_parts_199 hl (k := 9) rfl rfl (by decide) rfl (fun ls hl => ?_)
                  refine lv_goto (tgt := 70) hx hb dX9_parts_202 (by decide) ?_
                  exact ih _ _ _ _ _ _ _ _ _ _ _ hf hP hS (lv_sub hl [5, 6, 7, 2, 1, 8, 9, 0] rfl) kk
                · have hf := g_iff hf c16
                  refine lv_iload hx hb dX9_parts_183 (lv_at hl 5 rfl) ?_
                  refine lv_istore (lv' := [(6, .int v4), (11, .long ((u10).toInt64 - ((u7).toInt64 - (v5).toInt64))), (10, .int u7), (0, .ref (ga G 63)), (1, .int v1), (2, .int v2), (4, .int v4), (5, .int v5), (7, .long v7), (9, .int v9)]) hx hb dX9_parts_185 hl (by decide) rfl (fun ls hl => ?_)
                  refine lv_lload hx hb dX9_parts_187 (lv_at hl 1 rfl) ?_
                  refine lv_lstore (lv' := [(7, .long ((u10).toInt64 - ((u7).toInt64 - (v5).toInt64))), (6, .int v4), (11, .long ((u10).toInt64 - ((u7).toInt64 - (v5).toInt64))), (10, .int u7), (0, .ref (ga G 63)), (1, .int v1), (2, .int v2), (4, .int v4), (5, .int v5), (9, .int v9)]) hx hb dX9_parts_189 hl (by decide) rfl (fun ls hl => ?_)
                  refine lv_iload hx hb dX9_parts_191 (lv_at hl 9 rfl) ?_
                  refine lv_istore (lv' := [(4, .int v9), (7, .long ((u10).toInt64 - ((u7).toInt64 - (v5).toInt64))), (6, .int v4), (11, .long ((u10).toInt64 - ((u7).toInt64 - (v5).toInt64))), (10, .int u7), (0, .ref (ga G 63)), (1, .int v1), (2, .int v2), (5, .int v5), (9, .int v9)]) hx hb dX9_parts_193 hl (by decide) rfl (fun ls hl => ?_)
                  refine lv_iload hx hb dX9_parts_195 (lv_at hl 4 rfl) ?_
                  refine lv_istore (lv' := [(5, .int u7), (4, .int v9), (7, .long ((u10).toInt64 - ((u7).toInt64 - (v5).toInt64))), (6, .int v4), (11, .long ((u10).toInt64 - ((u7).toInt64 - (v5).toInt64))), (10, .int u7), (0, .ref (ga G 63)), (1, .int v1), (2, .int v2), (9, .int v9)]) hx hb dX9_parts_197 hl (by decide) rfl (fun ls hl => ?_)
                  refine lv_iinc (v := (v9 + 1)) (lv' := [(9, .int (v9 + 1)), (5, .int u7), (4, .int v9), (7, .long ((u10).toInt64 - ((u7).toInt64 - (v5).toInt64))), (6, .int v4), (11, .long ((u10).toInt64 - ((u7).toInt64 - (v5).toInt64))), (10, .int u7), (0, .ref (ga G 63)), (1, .int v1), (2, .int v2)]) hx hb dX9_parts_199 hl (k := 9) rfl rfl (by decide) rfl (fun ls hl => ?_)
                  refine lv_goto (tgt := 70) hx hb dX9_parts_202 (by decide) ?_
                  exact ih _ _ _ _ _ _ _ _ _ _ _ hf hP hS (lv_sub hl [7, 8, 9, 2, 1, 4, 3, 0] rfl) kk
            · have hf := g_iff hf c13
              refine lv_lload hx hb dX9_parts_156 (lv_at hl 0 rfl) ?_
              refine lv_lneg hx hb dX9_parts_158 ?_
              refine lv_goto (tgt := 164) hx hb dX9_parts_159 (by decide) ?_
              refine lv_lload hx hb dX9_parts_164 (lv_at hl 8 rfl) ?_
              refine lv_lconst (v := 0) hx hb dX9_parts_166 (by decide) ?_
              refine W.lcmp hx hb dX9_parts_167 ?_
              refine lv_if_ge (tgt := 177) hx hb dX9_parts_168 (by decide) (fun c17 => ?_) (fun c17 => ?_)
              · have hf := g_ift hf c17
                refine lv_lload hx hb dX9_parts_177 (lv_at hl 8 rfl) ?_
                refine W.lcmp hx hb dX9_parts_179 ?_
                refine lv_if_le (tgt := 191) hx hb dX9_parts_180 (by decide) (fun c18 => ?_) (fun c18 => ?_)
                · have hf := g_ift hf c18
                  refine lv_iload hx hb dX9_parts_191 (lv_at hl 9 rfl) ?_
                  refine lv_istore (lv' := [(4, .int v9), (11, .long ((u10).toInt64 - ((u7).toInt64 - (v5).toInt64))), (10, .int u7), (0, .ref (ga G 63)), (1, .int v1), (2, .int v2), (5, .int v5), (6, .int v6), (7, .long v7), (9, .int v9)]) hx hb dX9_parts_193 hl (by decide) rfl (fun ls hl => ?_)
                  refine lv_iload hx hb dX9_parts_195 (lv_at hl 2 rfl) ?_
                  refine lv_istore (lv' := [(5, .int u7), (4, .int v9), (11, .long ((u10).toInt64 - ((u7).toInt64 - (v5).toInt64))), (10, .int u7), (0, .ref (ga G 63)), (1, .int v1), (2, .int v2), (6, .int v6), (7, .long v7), (9, .int v9)]) hx hb dX9_parts_197 hl (by decide) rfl (fun ls hl => ?_)
                  refine lv_iinc (v := (v9 + 1)) (lv' := [(9, .int (v9 + 1)), (5, .int u7), (4, .int v9), (11, .long ((u10).toInt64 - ((u7).toInt64 - (v5).toInt64))), (10, .int u7), (0, .ref (ga G 63)), (1, .int v1), (2, .int v2), (6, .int v6), (7, .long v7)]) hx hb dX9_parts_199 hl (k := 9) rfl rfl (by decide) rfl (fun ls hl => ?_)
                  refine lv_goto (tgt := 70) hx hb dX9_parts_202 (by decide) ?_
                  exact ih _ _ _ _ _ _ _ _ _ _ _ hf hP hS (lv_sub hl [5, 6, 7, 2, 1, 8, 9, 0] rfl) kk
                · have hf := g_iff hf c18
                  refine lv_iload hx hb dX9_parts_183 (lv_at hl 5 rfl) ?_
                  refine lv_istore (lv' := [(6, .int v4), (11, .long ((u10).toInt64 - ((u7).toInt64 - (v5).toInt64))), (10, .int u7), (0, .ref (ga G 63)), (1, .int v1), (2, .int v2), (4, .int v4), (5, .int v5), (7, .long v7), (9, .int v9)]) hx hb dX9_parts_185 hl (by decide) rfl (fun ls hl => ?_)
                  refine lv_lload hx hb dX9_parts_187 (lv_at hl 1 rfl) ?_
                  refine lv_lstore (lv' := [(7, .long ((u10).toInt64 - ((u7).toInt64 - (v5).toInt64))), (6, .int v4), (11, .long ((u10).toInt64 - ((u7).toInt64 - (v5).toInt64))), (10, .int u7), (0, .ref (ga G 63)), (1, .int v1), (2, .int v2), (4, .int v4), (5, .int v5), (9, .int v9)]) hx hb dX9_parts_189 hl (by decide) rfl (fun ls hl => ?_)
                  refine lv_iload hx hb dX9_parts_191 (lv_at hl 9 rfl) ?_
                  refine lv_istore (lv' := [(4, .int v9), (7, .long ((u10).toInt64 - ((u7).toInt64 - (v5).toInt64))), (6, .int v4), (11, .long ((u10).toInt64 - ((u7).toInt64 - (v5).toInt64))), (10, .int u7), (0, .ref (ga G 63)), (1, .int v1), (2, .int v2), (5, .int v5), (9, .int v9)]) hx hb dX9_parts_193 hl (by decide) rfl (fun ls hl => ?_)
                  refine lv_iload hx hb dX9_parts_195 (lv_at hl 4 rfl) ?_
                  refine lv_istore (lv' := [(5, .int u7), (4, .int v9), (7, .long ((u10).toInt64 - ((u7).toInt64 - (v5).toInt64))), (6, .int v4), (11, .long ((u10).toInt64 - ((u7).toInt64 - (v5).toInt64))), (10, .int u7), (0, .ref (ga G 63)), (1, .int v1), (2, .int v2), (9, .int v9)]) hx hb dX9_parts_197 hl (by decide) rfl (fun ls hl => ?_)
                  refine lv_iinc (v := (v9 + 1)) (lv' := [(9, .int (v9 + 1)), (5, .int u7), (4, .int v9), (7, .long ((u10).toInt64 - ((u7).toInt64 - (v5).toInt64))), (6, .int v4), (11, .long ((u10).toInt64 - ((u7).toInt64 - (v5).toInt64))), (10, .int u7), (0, .ref (ga G 63)), (1, .int v1), (2, .int v2)]) hx hb dX9_parts_199 hl (k := 9) rfl rfl (by decide) rfl (fun ls hl => ?_)
                  refine lv_goto (tgt := 70) hx hb dX9_parts_202 (by decide) ?_
                  exact ih _ _ _ _ _ _ _ _ _ _ _ hf hP hS (lv_sub hl [7, 8, 9, 2, 1, 4, 3, 0] rfl) kk
              · have hf := g_iff hf c17
                refine lv_lload hx hb dX9_parts_171 (lv_at hl 8 rfl) ?_
                refine lv_lneg hx hb dX9_parts_173 ?_
                refine lv_goto (tgt := 179) hx hb dX9_parts_174 (by decide) ?_
                refine W.lcmp hx hb dX9_parts_179 ?_
                refine lv_if_le (tgt := 191) hx hb dX9_parts_180 (by decide) (fun c19 => ?_) (fun c19 => ?_)
                · have hf := g_ift hf c19
                  refine lv_iload hx hb dX9_parts_191 (lv_at hl 9 rfl) ?_
                  refine lv_istore (lv' := [(4, .int v9), (11, .long ((u10).toInt64 - ((u7).toInt64 - (v5).toInt64))), (10, .int u7), (0, .ref (ga G 63)), (1, .int v1), (2, .int v2), (5, .int v5), (6, .int v6), (7, .long v7), (9, .int v9)]) hx hb dX9_parts_193 hl (by decide) rfl (fun ls hl => ?_)
                  refine lv_iload hx hb dX9_parts_195 (lv_at hl 2 rfl) ?_
                  refine lv_istore (lv' := [(5, .int u7), (4, .int v9), (11, .long ((u10).toInt64 - ((u7).toInt64 - (v5).toInt64))), (10, .int u7), (0, .ref (ga G 63)), (1, .int v1), (2, .int v2), (6, .int v6), (7, .long v7), (9, .int v9)]) hx hb dX9_parts_197 hl (by decide) rfl (fun ls hl => ?_)
                  refine lv_iinc (v := (v9 + 1)) (lv' := [(9, .int (v9 + 1)), (5, .int u7), (4, .int v9), (11, .long ((u10).toInt64 - ((u7).toInt64 - (v5).toInt64))), (10, .int u7), (0, .ref (ga G 63)), (1, .int v1), (2, .int v2), (6, .int v6), (7, .long v7)]) hx hb dX9_parts_199 hl (k := 9) rfl rfl (by decide) rfl (fun ls hl => ?_)
                  refine lv_goto (tgt := 70) hx hb dX9_parts_202 (by decide) ?_
                  exact ih _ _ _ _ _ _ _ _ _ _ _ hf hP hS (lv_sub hl [5, 6, 7, 2, 1, 8, 9, 0] rfl) kk
                · have hf := g_iff hf c19
                  refine lv_iload hx hb dX9_parts_183 (lv_at hl 5 rfl) ?_
                  refine lv_istore (lv' := [(6, .int v4), (11, .long ((u10).toInt64 - ((u7).toInt64 - (v5).toInt64))), (10, .int u7), (0, .ref (ga G 63)), (1, .int v1), (2, .int v2), (4, .int v4), (5, .int v5), (7, .long v7), (9, .int v9)]) hx hb dX9_parts_185 hl (by decide) rfl (fun ls hl => ?_)
                  refine lv_lload hx hb dX9_parts_187 (lv_at hl 1 rfl) ?_
                  refine lv_lstore (lv' := [(7, .long ((u10).toInt64 - ((u7).toInt64 - (v5).toInt64))), (6, .int v4), (11, .long ((u10).toInt64 - ((u7).toInt64 - (v5).toInt64))), (10, .int u7), (0, .ref (ga G 63)), (1, .int v1), (2, .int v2), (4, .int v4), (5, .int v5), (9, .int v9)]) hx hb dX9_parts_189 hl (by decide) rfl (fun ls hl => ?_)
                  refine lv_iload hx hb dX9_parts_191 (lv_at hl 9 rfl) ?_
                  refine lv_istore (lv' := [(4, .int v9), (7, .long ((u10).toInt64 - ((u7).toInt64 - (v5).toInt64))), (6, .int v4), (11, .long ((u10).toInt64 - ((u7).toInt64 - (v5).toInt64))), (10, .int u7), (0, .ref (ga G 63)), (1, .int v1), (2, .int v2), (5, .int v5), (9, .int v9)]) hx hb dX9_parts_193 hl (by decide) rfl (fun ls hl => ?_)
                  refine lv_iload hx hb dX9_parts_195 (lv_at hl 4 rfl) ?_
                  refine lv_istore (lv' := [(5, .int u7), (4, .int v9), (7, .long ((u10).toInt64 - ((u7).toInt64 - (v5).toInt64))), (6, .int v4), (11, .long ((u10).toInt64 - ((u7).toInt64 - (v5).toInt64))), (10, .int u7), (0, .ref (ga G 63)), (1, .int v1), (2, .int v2), (9, .int v9)]) hx hb dX9_parts_197 hl (by decide) rfl (fun ls hl => ?_)
                  refine lv_iinc (v := (v9 + 1)) (lv' := [(9, .int (v9 + 1)), (5, .int u7), (4, .int v9), (7, .long ((u10).toInt64 - ((u7).toInt64 - (v5).toInt64))), (6, .int v4), (11, .long ((u10).toInt64 - ((u7).toInt64 - (v5).toInt64))), (10, .int u7), (0, .ref (ga G 63)), (1, .int v1), (2, .int v2)]) hx hb dX9_parts_199 hl (k := 9) rfl rfl (by decide) rfl (fun ls hl => ?_)
                  refine lv_goto (tgt := 70) hx hb dX9_parts_202 (by decide) ?_
                  exact ih _ _ _ _ _ _ _ _ _ _ _ hf hP hS (lv_sub hl [7, 8, 9, 2, 1, 4, 3, 0] rfl) kk
        · have hf := g_ift hf c9
          refine lv_iload hx hb dX9_parts_112 (lv_at hl 8 rfl) ?_
          refine lv_aload_n hx hb dX9_parts_114 rfl (lv_at hl 1 rfl) ?_
          refine ggM_0 X E hP inX9_parts_X9 lkX9_parts_1 dX9_parts_115 ?_
          refine lv_icmp_ge (tgt := 124) hx hb dX9_parts_118 (by decide) (fun c20 => ?_) (fun c20 => ?_)
          · have hf := g_ift hf c20
            refine lv_aload_n hx hb dX9_parts_124 rfl (lv_at hl 1 rfl) ?_
            refine lv_iload hx hb dX9_parts_125 (lv_at hl 4 rfl) ?_
            refine lv_iload hx hb dX9_parts_127 (lv_at hl 8 rfl) ?_
            obtain ⟨u21, h22, hf⟩ := g_bind hf
            refine g_vi (rest := []) X E hP hS (tcX9_rises l G _ _ _ h22) (g_cwV X gX9_parts_X9_rises rfl hdX9_rises ⟨Nat.le_of_ble_eq_true rfl, Nat.le_of_ble_eq_true rfl⟩) (rcM_model E hP) rfl hl.1 rfl (Nat.le_of_ble_eq_true rfl) dX9_parts_129 ⟨Nat.le_refl _, Nat.le_refl _⟩ (fun H locs hP hS => ?_)
            refine lv_i2l hx hb dX9_parts_132 rfl ?_
            refine lv_iload hx hb dX9_parts_133 (lv_at hl 0 rfl) ?_
            refine lv_i2l hx hb dX9_parts_135 rfl ?_
            refine lv_iload hx hb dX9_parts_136 (lv_at hl 5 rfl) ?_
            refine lv_i2l hx hb dX9_parts_138 rfl ?_
            refine lv_lsub hx hb dX9_parts_139 ?_
            refine lv_lsub hx hb dX9_parts_140 ?_
            refine lv_lstore (lv' := [(11, .long ((u21).toInt64 - ((u7).toInt64 - (v5).toInt64))), (10, .int u7), (0, .ref (ga G 63)), (1, .int v1), (2, .int v2), (4, .int v4), (5, .int v5), (6, .int v6), (7, .long v7), (9, .int v9)]) hx hb dX9_parts_141 hl (by decide) rfl (fun ls hl => ?_)
            refine lv_iload hx hb dX9_parts_143 (lv_at hl 7 rfl) ?_
            refine lv_iconst (v := -1) hx hb dX9_parts_145 (by decide) ?_
            refine lv_icmp_eq (tgt := 183) hx hb dX9_parts_146 (by decide) (fun c23 => ?_) (fun c23 => ?_)
            · have hf := g_ift hf c23
              refine lv_iload hx hb dX9_parts_183 (lv_at hl 5 rfl) ?_
              refine lv_istore (lv' := [(6, .int v4), (11, .long ((u21).toInt64 - ((u7).toInt64 - (v5).toInt64))), (10, .int u7), (0, .ref (ga G 63)), (1, .int v1), (2, .int v2), (4, .int v4), (5, .int v5), (7, .long v7), (9, .int v9)]) hx hb dX9_parts_185 hl (by decide) rfl (fun ls hl => ?_)
              refine lv_lload hx hb dX9_parts_187 (lv_at hl 1 rfl) ?_
              refine lv_lstore (lv' := [(7, .long ((u21).toInt64 - ((u7).toInt64 - (v5).toInt64))), (6, .int v4), (11, .long ((u21).toInt64 - ((u7).toInt64 - (v5).toInt64))), (10, .int u7), (0, .ref (ga G 63)), (1, .int v1), (2, .int v2), (4, .int v4), (5, .int v5), (9, .int v9)]) hx hb dX9_parts_189 hl (by decide) rfl (fun ls hl => ?_)
              refine lv_iload hx hb dX9_parts_191 (lv_at hl 9 rfl) ?_
              refine lv_istore (lv' := [(4, .int v9), (7, .long ((u21).toInt64 - ((u7).toInt64 - (v5).toInt64))), (6, .int v4), (11, .long ((u21).toInt64 - ((u7).toInt64 - (v5).toInt64))), (10, .int u7), (0, .ref (ga G 63)), (1, .int v1), (2, .int v2), (5, .int v5), (9, .int v9)]) hx hb dX9_parts_193 hl (by decide) rfl (fun ls hl => ?_)
              refine lv_iload hx hb dX9_parts_195 (lv_at hl 4 rfl) ?_
              refine lv_istore (lv' := [(5, .int u7), (4, .int v9), (7, .long ((u21).toInt64 - ((u7).toInt64 - (v5).toInt64))), (6, .int v4), (11, .long ((u21).toInt64 - ((u7).toInt64 - (v5).toInt64))), (10, .int u7), (0, .ref (ga G 63)), (1, .int v1), (2, .int v2), (9, .int v9)]) hx hb dX9_parts_197 hl (by decide) rfl (fun ls hl => ?_)
              refine lv_iinc (v := (v9 + 1)) (lv' := [(9, .int (v9 + 1)), (5, .int u7), (4, .int v9), (7, .long ((u21).toInt64 - ((u7).toInt64 - (v5).toInt64))), (6, .int v4), (11, .long ((u21).toInt64 - ((u7).toInt64 - (v5).toInt64))), (10, .int u7), (0, .ref (ga G 63)), (1, .int v1), (2, .int v2)]) hx hb dX9_parts_199 hl (k := 9) rfl rfl (by decide) rfl (fun ls hl => ?_)
              refine lv_goto (tgt := 70) hx hb dX9_parts_202 (by decide) ?_
              exact ih _ _ _ _ _ _ _ _ _ _ _ hf hP hS (lv_sub hl [7, 8, 9, 2, 1, 4, 3, 0] rfl) kk
            · have hf := g_iff hf c23
              refine lv_lload hx hb dX9_parts_149 (lv_at hl 0 rfl) ?_
              refine lv_lconst (v := 0) hx hb dX9_parts_151 (by decide) ?_
              refine W.lcmp hx hb dX9_parts_152 ?_
              refine lv_if_ge (tgt := 162) hx hb dX9_parts_153 (by decide) (fun c24 => ?_) (fun c24 => ?_)
              · have hf := g_ift hf c24
                refine lv_lload hx hb dX9_parts_162 (lv_at hl 0 rfl) ?_
                refine lv_lload hx hb dX9_parts_164 (lv_at hl 8 rfl) ?_
                refine lv_lconst (v := 0) hx hb dX9_parts_166 (by decide) ?_
                refine W.lcmp hx hb dX9_parts_167 ?_
                refine lv_if_ge (tgt := 177) hx hb dX9_parts_168 (by decide) (fun c25 => ?_) (fun c25 => ?_)
                · have hf := g_ift hf c25
                  refine lv_lload hx hb dX9_parts_177 (lv_at hl 8 rfl) ?_
                  refine W.lcmp hx hb dX9_parts_179 ?_
                  refine lv_if_le (tgt := 191) hx hb dX9_parts_180 (by decide) (fun c26 => ?_) (fun c26 => ?_)
                  · have hf := g_ift hf c26
                    refine lv_iload hx hb dX9_parts_191 (lv_at hl 9 rfl) ?_
                    refine lv_istore (lv' := [(4, .int v9), (11, .long ((u21).toInt64 - ((u7).toInt64 - (v5).toInt64))), (10, .int u7), (0, .ref (ga G 63)), (1, .int v1), (2, .int v2), (5, .int v5), (6, .int v6), (7, .long v7), (9, .int v9)]) hx hb dX9_parts_193 hl (by decide) rfl (fun ls hl => ?_)
                    refine lv_iload hx hb dX9_parts_195 (lv_at hl 2 rfl) ?_
                    refine lv_istore (lv' := [(5, .int u7), (4, .int v9), (11, .long ((u21).toInt64 - ((u7).toInt64 - (v5).toInt64))), (10, .int u7), (0, .ref (ga G 63)), (1, .int v1), (2, .int v2), (6, .int v6), (7, .long v7), (9, .int v9)]) hx hb dX9_parts_197 hl (by decide) rfl (fun ls hl => ?_)
                    refine lv_iinc (v := (v9 + 1)) (lv' := [(9, .int (v9 + 1)), (5, .int u7), (4, .int v9), (11, .long ((u21).toInt64 - ((u7).toInt64 - (v5).toInt64))), (10, .int u7), (0, .ref (ga G 63)), (1, .int v1), (2, .int v2), (6, .int v6), (7, .long v7)]) hx hb dX9_parts_199 hl (k := 9) rfl rfl (by decide) rfl (fun ls hl => ?_)
                    refine lv_goto (tgt := 70) hx hb dX9_parts_202 (by decide) ?_
                    exact ih _ _ _ _ _ _ _ _ _ _ _ hf hP hS (lv_sub hl [5, 6, 7, 2, 1, 8, 9, 0] rfl) kk
                  · have hf := g_iff hf c26
                    refine lv_iload hx hb dX9_parts_183 (lv_at hl 5 rfl) ?_
                    refine lv_istore (lv' := [(6, .int v4), (11, .long ((u21).toInt64 - ((u7).toInt64 - (v5).toInt64))), (10, .int u7), (0, .ref (ga G 63)), (1, .int v1), (2, .int v2), (4, .int v4), (5, .int v5), (7, .long v7), (9, .int v9)]) hx hb dX9_parts_185 hl (by decide) rfl (fun ls hl => ?_)
                    refine lv_lload hx hb dX9_parts_187 (lv_at hl 1 rfl) ?_
                    refine lv_lstore (lv' := [(7, .long ((u21).toInt64 - ((u7).toInt64 - (v5).toInt64))), (6, .int v4), (11, .long ((u21).toInt64 - ((u7).toInt64 - (v5).toInt64))), (10, .int u7), (0, .ref (ga G 63)), (1, .int v1), (2, .int v2), (4, .int v4), (5, .int v5), (9, .int v9)]) hx hb dX9_parts_189 hl (by decide) rfl (fun ls hl => ?_)
                    refine lv_iload hx hb dX9_parts_191 (lv_at hl 9 rfl) ?_
                    refine lv_istore (lv' := [(4, .int v9), (7, .long ((u21).toInt64 - ((u7).toInt64 - (v5).toInt64))), (6, .int v4), (11, .long ((u21).toInt64 - ((u7).toInt64 - (v5).toInt64))), (10, .int u7), (0, .ref (ga G 63)), (1, .int v1), (2, .int v2), (5, .int v5), (9, .int v9)]) hx hb dX9_parts_193 hl (by decide) rfl (fun ls hl => ?_)
                    refine lv_iload hx hb dX9_parts_195 (lv_at hl 4 rfl) ?_
                    refine lv_istore (lv' := [(5, .int u7), (4, .int v9), (7, .long ((u21).toInt64 - ((u7).toInt64 - (v5).toInt64))), (6, .int v4), (11, .long ((u21).toInt64 - ((u7).toInt64 - (v5).toInt64))), (10, .int u7), (0, .ref (ga G 63)), (1, .int v1), (2, .int v2), (9, .int v9)]) hx hb dX9_parts_197 hl (by decide) rfl (fun ls hl => ?_)
                    refine lv_iinc (v := (v9 + 1)) (lv' := [(9, .int (v9 + 1)), (5, .int u7), (4, .int v9), (7, .long ((u21).toInt64 - ((u7).toInt64 - (v5).toInt64))), (6, .int v4), (11, .long ((u21).toInt64 - ((u7).toInt64 - (v5).toInt64))), (10, .int u7), (0, .ref (ga G 63)), (1, .int v1), (2, .int v2)]) hx hb dX9_parts_199 hl (k := 9) rfl rfl (by decide) rfl (fun ls hl => ?_)
                    refine lv_goto (tgt := 70) hx hb dX9_parts_202 (by decide) ?_
                    exact ih _ _ _ _ _ _ _ _ _ _ _ hf hP hS (lv_sub hl [7, 8, 9, 2, 1, 4, 3, 0] rfl) kk
                · have hf := g_iff hf c25
                  refine lv_lload hx hb dX9_parts_171 (lv_at hl 8 rfl) ?_
                  refine lv_lneg hx hb dX9_parts_173 ?_
                  refine lv_goto (tgt := 179) hx hb dX9_parts_174 (by decide) ?_
                  refine W.lcmp hx hb dX9_parts_179 ?_
                  refine lv_if_le (tgt := 191) hx hb dX9_parts_180 (by decide) (fun c27 => ?_) (fun c27 => ?_)
                  · have hf := g_ift hf c27
                    refine lv_iload hx hb dX9_parts_191 (lv_at hl 9 rfl) ?_
                    refine lv_istore (lv' := [(4, .int v9), (11, .long ((u21).toInt64 - ((u7).toInt64 - (v5).toInt64))), (10, .int u7), (0, .ref (ga G 63)), (1, .int v1), (2, .int v2), (5, .int v5), (6, .int v6), (7, .long v7), (9, .int v9)]) hx hb dX9_parts_193 hl (by decide) rfl (fun ls hl => ?_)
                    refine lv_iload hx hb dX9_parts_195 (lv_at hl 2 rfl) ?_
                    refine lv_istore (lv' := [(5, .int u7), (4, .int v9), (11, .long ((u21).toInt64 - ((u7).toInt64 - (v5).toInt64))), (10, .int u7), (0, .ref (ga G 63)), (1, .int v1), (2, .int v2), (6, .int v6), (7, .long v7), (9, .int v9)]) hx hb dX9_parts_197 hl (by decide) rfl (fun ls hl => ?_)
                    refine lv_iinc (v := (v9 + 1)) (lv' := [(9, .int (v9 + 1)), (5, .int u7), (4, .int v9), (11, .long ((u21).toInt64 - ((u7).toInt64 - (v5).toInt64))), (10, .int u7), (0, .ref (ga G 63)), (1, .int v1), (2, .int v2), (6, .int v6), (7, .long v7)]) hx hb dX9_parts_199 hl (k := 9) rfl rfl (by decide) rfl (fun ls hl => ?_)
                    refine lv_goto (tgt := 70) hx hb dX9_parts_202 (by decide) ?_
                    exact ih _ _ _ _ _ _ _ _ _ _ _ hf hP hS (lv_sub hl [5, 6, 7, 2, 1, 8, 9, 0] rfl) kk
                  · have hf := g_iff hf c27
                    refine lv_iload hx hb dX9_parts_183 (lv_at hl 5 rfl) ?_
                    refine lv_istore (lv' := [(6, .int v4), (11, .long ((u21).toInt64 - ((u7).toInt64 - (v5).toInt64))), (10, .int u7), (0, .ref (ga G 63)), (1, .int v1), (2, .int v2), (4, .int v4), (5, .int v5), (7, .long v7), (9, .int v9)]) hx hb dX9_parts_185 hl (by decide) rfl (fun ls hl => ?_)
                    refine lv_lload hx hb dX9_parts_187 (lv_at hl 1 rfl) ?_
                    refine lv_lstore (lv' := [(7, .long ((u21).toInt64 - ((u7).toInt64 - (v5).toInt64))), (6, .int v4), (11, .long ((u21).toInt64 - ((u7).toInt64 - (v5).toInt64))), (10, .int u7), (0, .ref (ga G 63)), (1, .int v1), (2, .int v2), (4, .int v4), (5, .int v5), (9, .int v9)]) hx hb dX9_parts_189 hl (by decide) rfl (fun ls hl => ?_)
                    refine lv_iload hx hb dX9_parts_191 (lv_at hl 9 rfl) ?_
                    refine lv_istore (lv' := [(4, .int v9), (7, .long ((u21).toInt64 - ((u7).toInt64 - (v5).toInt64))), (6, .int v4), (11, .long ((u21).toInt64 - ((u7).toInt64 - (v5).toInt64))), (10, .int u7), (0, .ref (ga G 63)), (1, .int v1), (2, .int v2), (5, .int v5), (9, .int v9)]) hx hb dX9_parts_193 hl (by decide) rfl (fun ls hl => ?_)
                    refine lv_iload hx hb dX9_parts_195 (lv_at hl 4 rfl) ?_
                    refine lv_istore (lv' := [(5, .int u7), (4, .int v9), (7, .long ((u21).toInt64 - ((u7).toInt64 - (v5).toInt64))), (6, .int v4), (11, .long ((u21).toInt64 - ((u7).toInt64 - (v5).toInt64))), (10, .int u7), (0, .ref (ga G 63)), (1, .int v1), (2, .int v2), (9, .int v9)]) hx hb dX9_parts_197 hl (by decide) rfl (fun ls hl => ?_)
                    refine lv_iinc (v := (v9 + 1)) (lv' := [(9, .int (v9 + 1)), (5, .int u7), (4, .int v9), (7, .long ((u21).toInt64 - ((u7).toInt64 - (v5).toInt64))), (6, .int v4), (11, .long ((u21).toInt64 - ((u7).toInt64 - (v5).toInt64))), (10, .int u7), (0, .ref (ga G 63)), (1, .int v1), (2, .int v2)]) hx hb dX9_parts_199 hl (k := 9) rfl rfl (by decide) rfl (fun ls hl => ?_)
                    refine lv_goto (tgt := 70) hx hb dX9_parts_202 (by decide) ?_
                    exact ih _ _ _ _ _ _ _ _ _ _ _ hf hP hS (lv_sub hl [7, 8, 9, 2, 1, 4, 3, 0] rfl) kk
              · have hf := g_iff hf c24
                refine lv_lload hx hb dX9_parts_156 (lv_at hl 0 rfl) ?_
                refine lv_lneg hx hb dX9_parts_158 ?_
                refine lv_goto (tgt := 164) hx hb dX9_parts_159 (by decide) ?_
                refine lv_lload hx hb dX9_parts_164 (lv_at hl 8 rfl) ?_
                refine lv_lconst (v := 0) hx hb dX9_parts_166 (by decide) ?_
                refine W.lcmp hx hb dX9_parts_167 ?_
                refine lv_if_ge (tgt := 177) hx hb dX9_parts_168 (by decide) (fun c28 => ?_) (fun c28 => ?_)
                · have hf := g_ift hf c28
                  refine lv_lload hx hb dX9_parts_177 (lv_at hl 8 rfl) ?_
                  refine W.lcmp hx hb dX9_parts_179 ?_
                  refine lv_if_le (tgt := 191) hx hb dX9_parts_180 (by decide) (fun c29 => ?_) (fun c29 => ?_)
                  · have hf := g_ift hf c29
                    refine lv_iload hx hb dX9_parts_191 (lv_at hl 9 rfl) ?_
                    refine lv_istore (lv' := [(4, .int v9), (11, .long ((u21).toInt64 - ((u7).toInt64 - (v5).toInt64))), (10, .int u7), (0, .ref (ga G 63)), (1, .int v1), (2, .int v2), (5, .int v5), (6, .int v6), (7, .long v7), (9, .int v9)]) hx hb dX9_parts_193 hl (by decide) rfl (fun ls hl => ?_)
                    refine lv_iload hx hb dX9_parts_195 (lv_at hl 2 rfl) ?_
                    refine lv_istore (lv' := [(5, .int u7), (4, .int v9), (11, .long ((u21).toInt64 - ((u7).toInt64 - (v5).toInt64))), (10, .int u7), (0, .ref (ga G 63)), (1, .int v1), (2, .int v2), (6, .int v6), (7, .long v7), (9, .int v9)]) hx hb dX9_parts_197 hl (by decide) rfl (fun ls hl => ?_)
                    refine lv_iinc (v := (v9 + 1)) (lv' := [(9, .int (v9 + 1)), (5, .int u7), (4, .int v9), (11, .long ((u21).toInt64 - ((u7).toInt64 - (v5).toInt64))), (10, .int u7), (0, .ref (ga G 63)), (1, .int v1), (2, .int v2), (6, .int v6), (7, .long v7)]) hx hb dX9_parts_199 hl (k := 9) rfl rfl (by decide) rfl (fun ls hl => ?_)
                    refine lv_goto (tgt := 70) hx hb dX9_parts_202 (by decide) ?_
                    exact ih _ _ _ _ _ _ _ _ _ _ _ hf hP hS (lv_sub hl [5, 6, 7, 2, 1, 8, 9, 0] rfl) kk
                  · have hf := g_iff hf c29
                    refine lv_iload hx hb dX9_parts_183 (lv_at hl 5 rfl) ?_
                    refine lv_istore (lv' := [(6, .int v4), (11, .long ((u21).toInt64 - ((u7).toInt64 - (v5).toInt64))), (10, .int u7), (0, .ref (ga G 63)), (1, .int v1), (2, .int v2), (4, .int v4), (5, .int v5), (7, .long v7), (9, .int v9)]) hx hb dX9_parts_185 hl (by decide) rfl (fun ls hl => ?_)
                    refine lv_lload hx hb dX9_parts_187 (lv_at hl 1 rfl) ?_
                    refine lv_lstore (lv' := [(7, .long ((u21).toInt64 - ((u7).toInt64 - (v5).toInt64))), (6, .int v4), (11, .long ((u21).toInt64 - ((u7).toInt64 - (v5).toInt64))), (10, .int u7), (0, .ref (ga G 63)), (1, .int v1), (2, .int v2), (4, .int v4), (5, .int v5), (9, .int v9)]) hx hb dX9_parts_189 hl (by decide) rfl (fun ls hl => ?_)
                    refine lv_iload hx hb dX9_parts_191 (lv_at hl 9 rfl) ?_
                    refine lv_istore (lv' := [(4, .int v9), (7, .long ((u21).toInt64 - ((u7).toInt64 - (v5).toInt64))), (6, .int v4), (11, .long ((u21).toInt64 - ((u7).toInt64 - (v5).toInt64))), (10, .int u7), (0, .ref (ga G 63)), (1, .int v1), (2, .int v2), (5, .int v5), (9, .int v9)]) hx hb dX9_parts_193 hl (by decide) rfl (fun ls hl => ?_)
                    refine lv_iload hx hb dX9_parts_195 (lv_at hl 4 rfl) ?_
                    refine lv_istore (lv' := [(5, .int u7), (4, .int v9), (7, .long ((u21).toInt64 - ((u7).toInt64 - (v5).toInt64))), (6, .int v4), (11, .long ((u21).toInt64 - ((u7).toInt64 - (v5).toInt64))), (10, .int u7), (0, .ref (ga G 63)), (1, .int v1), (2, .int v2), (9, .int v9)]) hx hb dX9_parts_197 hl (by decide) rfl (fun ls hl => ?_)
                    refine lv_iinc (v := (v9 + 1)) (lv' := [(9, .int (v9 + 1)), (5, .int u7), (4, .int v9), (7, .long ((u21).toInt64 - ((u7).toInt64 - (v5).toInt64))), (6, .int v4), (11, .long ((u21).toInt64 - ((u7).toInt64 - (v5).toInt64))), (10, .int u7), (0, .ref (ga G 63)), (1, .int v1), (2, .int v2)]) hx hb dX9_parts_199 hl (k := 9) rfl rfl (by decide) rfl (fun ls hl => ?_)
                    refine lv_goto (tgt := 70) hx hb dX9_parts_202 (by decide) ?_
                    exact ih _ _ _ _ _ _ _ _ _ _ _ hf hP hS (lv_sub hl [7, 8, 9, 2, 1, 4, 3, 0] rfl) kk
                · have hf := g_iff hf c28
                  refine lv_lload hx hb dX9_parts_171 (lv_at hl 8 rfl) ?_
                  refine lv_lneg hx hb dX9_parts_173 ?_
                  refine lv_goto (tgt := 179) hx hb dX9_parts_174 (by decide) ?_
                  refine W.lcmp hx hb dX9_parts_179 ?_
                  refine lv_if_le (tgt := 191) hx hb dX9_parts_180 (by decide) (fun c30 => ?_) (fun c30 => ?_)
                  · have hf := g_ift hf c30
                    refine lv_iload hx hb dX9_parts_191 (lv_at hl 9 rfl) ?_
                    refine lv_istore (lv' := [(4, .int v9), (11, .long ((u21).toInt64 - ((u7).toInt64 - (v5).toInt64))), (10, .int u7), (0, .ref (ga G 63)), (1, .int v1), (2, .int v2), (5, .int v5), (6, .int v6), (7, .long v7), (9, .int v9)]) hx hb dX9_parts_193 hl (by decide) rfl (fun ls hl => ?_)
                    refine lv_iload hx hb dX9_parts_195 (lv_at hl 2 rfl) ?_
                    refine lv_istore (lv' := [(5, .int u7), (4, .int v9), (11, .long ((u21).toInt64 - ((u7).toInt64 - (v5).toInt64))), (10, .int u7), (0, .ref (ga G 63)), (1, .int v1), (2, .int v2), (6, .int v6), (7, .long v7), (9, .int v9)]) hx hb dX9_parts_197 hl (by decide) rfl (fun ls hl => ?_)
                    refine lv_iinc (v := (v9 + 1)) (lv' := [(9, .int (v9 + 1)), (5, .int u7), (4, .int v9), (11, .long ((u21).toInt64 - ((u7).toInt64 - (v5).toInt64))), (10, .int u7), (0, .ref (ga G 63)), (1, .int v1), (2, .int v2), (6, .int v6), (7, .long v7)]) hx hb dX9_parts_199 hl (k := 9) rfl rfl (by decide) rfl (fun ls hl => ?_)
                    refine lv_goto (tgt := 70) hx hb dX9_parts_202 (by decide) ?_
                    exact ih _ _ _ _ _ _ _ _ _ _ _ hf hP hS (lv_sub hl [5, 6, 7, 2, 1, 8, 9, 0] rfl) kk
                  · have hf := g_iff hf c30
                    refine lv_iload hx hb dX9_parts_183 (lv_at hl 5 rfl) ?_
                    refine lv_istore (lv' := [(6, .int v4), (11, .long ((u21).toInt64 - ((u7).toInt64 - (v5).toInt64))), (10, .int u7), (0, .ref (ga G 63)), (1, .int v1), (2, .int v2), (4, .int v4), (5, .int v5), (7, .long v7), (9, .int v9)]) hx hb dX9_parts_185 hl (by decide) rfl (fun ls hl => ?_)
                    refine lv_lload hx hb dX9_parts_187 (lv_at hl 1 rfl) ?_
                    refine lv_lstore (lv' := [(7, .long ((u21).toInt64 - ((u7).toInt64 - (v5).toInt64))), (6, .int v4), (11, .long ((u21).toInt64 - ((u7).toInt64 - (v5).toInt64))), (10, .int u7), (0, .ref (ga G 63)), (1, .int v1), (2, .int v2), (4, .int v4), (5, .int v5), (9, .int v9)]) hx hb dX9_parts_189 hl (by decide) rfl (fun ls hl => ?_)
                    refine lv_iload hx hb dX9_parts_191 (lv_at hl 9 rfl) ?_
                    refine lv_istore (lv' := [(4, .int v9), (7, .long ((u21).toInt64 - ((u7).toInt64 - (v5).toInt64))), (6, .int v4), (11, .long ((u21).toInt64 - ((u7).toInt64 - (v5).toInt64))), (10, .int u7), (0, .ref (ga G 63)), (1, .int v1), (2, .int v2), (5, .int v5), (9, .int v9)]) hx hb dX9_parts_193 hl (by decide) rfl (fun ls hl => ?_)
                    refine lv_iload hx hb dX9_parts_195 (lv_at hl 4 rfl) ?_
                    refine lv_istore (lv' := [(5, .int u7), (4, .int v9), (7, .long ((u21).toInt64 - ((u7).toInt64 - (v5).toInt64))), (6, .int v4), (11, .long ((u21).toInt64 - ((u7).toInt64 - (v5).toInt64))), (10, .int u7), (0, .ref (ga G 63)), (1, .int v1), (2, .int v2), (9, .int v9)]) hx hb dX9_parts_197 hl (by decide) rfl (fun ls hl => ?_)
                    refine lv_iinc (v := (v9 + 1)) (lv' := [(9, .int (v9 + 1)), (5, .int u7), (4, .int v9), (7, .long ((u21).toInt64 - ((u7).toInt64 - (v5).toInt64))), (6, .int v4), (11, .long ((u21).toInt64 - ((u7).toInt64 - (v5).toInt64))), (10, .int u7), (0, .ref (ga G 63)), (1, .int v1), (2, .int v2)]) hx hb dX9_parts_199 hl (k := 9) rfl rfl (by decide) rfl (fun ls hl => ?_)
                    refine lv_goto (tgt := 70) hx hb dX9_parts_202 (by decide) ?_
                    exact ih _ _ _ _ _ _ _ _ _ _ _ hf hP hS (lv_sub hl [7, 8, 9, 2, 1, 4, 3, 0] rfl) kk
          · have hf := g_iff hf c20
            refine lv_goto (tgt := 199) hx hb dX9_parts_121 (by decide) ?_
            refine lv_iinc (v := (v9 + 1)) (lv' := [(9, .int (v9 + 1)), (10, .int u7), (0, .ref (ga G 63)), (1, .int v1), (2, .int v2), (4, .int v4), (5, .int v5), (6, .int v6), (7, .long v7)]) hx hb dX9_parts_199 hl (k := 8) rfl rfl (by decide) rfl (fun ls hl => ?_)
            refine lv_goto (tgt := 70) hx hb dX9_parts_202 (by decide) ?_
            exact ih _ _ _ _ _ _ _ _ _ _ _ hf hP hS (lv_sub hl [2, 3, 4, 5, 6, 7, 8, 0] rfl) kk
      · have hf := g_ift hf c6
        refine lv_aload_n hx hb dX9_parts_88 rfl (lv_at hl 0 rfl) ?_
        refine ggM_1 X E hP inX9_parts_X9 lkX9_parts_0 dX9_parts_89 ?_
        refine lv_goto (tgt := 102) hx hb dX9_parts_92 (by decide) ?_
        refine lv_istore (lv' := [(10, .int (S.1 1)), (0, .ref (ga G 63)), (1, .int v1), (2, .int v2), (4, .int v4), (5, .int v5), (6, .int v6), (7, .long v7), (9, .int v9)]) hx hb dX9_parts_102 hl (by decide) rfl (fun ls hl => ?_)
        refine lv_iload hx hb dX9_parts_104 (lv_at hl 0 rfl) ?_
        refine lv_sipush (v := -32768) hx hb dX9_parts_106 (by decide) ?_
        refine lv_icmp_ne (tgt := 124) hx hb dX9_parts_109 (by decide) (fun c31 => ?_) (fun c31 => ?_)
        · have hf := g_iff hf c31
          refine lv_aload_n hx hb dX9_parts_124 rfl (lv_at hl 1 rfl) ?_
          refine lv_iload hx hb dX9_parts_125 (lv_at hl 4 rfl) ?_
          refine lv_iload hx hb dX9_parts_127 (lv_at hl 8 rfl) ?_
          obtain ⟨u32, h33, hf⟩ := g_bind hf
          refine g_vi (rest := []) X E hP hS (tcX9_rises l G _ _ _ h33) (g_cwV X gX9_parts_X9_rises rfl hdX9_rises ⟨Nat.le_of_ble_eq_true rfl, Nat.le_of_ble_eq_true rfl⟩) (rcM_model E hP) rfl hl.1 rfl (Nat.le_of_ble_eq_true rfl) dX9_parts_129 ⟨Nat.le_refl _, Nat.le_refl _⟩ (fun H locs hP hS => ?_)
          refine lv_i2l hx hb dX9_parts_132 rfl ?_
          refine lv_iload hx hb dX9_parts_133 (lv_at hl 0 rfl) ?_
          refine lv_i2l hx hb dX9_parts_135 rfl ?_
          refine lv_iload hx hb dX9_parts_136 (lv_at hl 5 rfl) ?_
          refine lv_i2l hx hb dX9_parts_138 rfl ?_
          refine lv_lsub hx hb dX9_parts_139 ?_
          refine lv_lsub hx hb dX9_parts_140 ?_
          refine lv_lstore (lv' := [(11, .long ((u32).toInt64 - (((S.1 1)).toInt64 - (v5).toInt64))), (10, .int (S.1 1)), (0, .ref (ga G 63)), (1, .int v1), (2, .int v2), (4, .int v4), (5, .int v5), (6, .int v6), (7, .long v7), (9, .int v9)]) hx hb dX9_parts_141 hl (by decide) rfl (fun ls hl => ?_)
          refine lv_iload hx hb dX9_parts_143 (lv_at hl 7 rfl) ?_
          refine lv_iconst (v := -1) hx hb dX9_parts_145 (by decide) ?_
          refine lv_icmp_eq (tgt := 183) hx hb dX9_parts_146 (by decide) (fun c34 => ?_) (fun c34 => ?_)
          · have hf := g_ift hf c34
            refine lv_iload hx hb dX9_parts_183 (lv_at hl 5 rfl) ?_
            refine lv_istore (lv' := [(6, .int v4), (11, .long ((u32).toInt64 - (((S.1 1)).toInt64 - (v5).toInt64))), (10, .int (S.1 1)), (0, .ref (ga G 63)), (1, .int v1), (2, .int v2), (4, .int v4), (5, .int v5), (7, .long v7), (9, .int v9)]) hx hb dX9_parts_185 hl (by decide) rfl (fun ls hl => ?_)
            refine lv_lload hx hb dX9_parts_187 (lv_at hl 1 rfl) ?_
            refine lv_lstore (lv' := [(7, .long ((u32).toInt64 - (((S.1 1)).toInt64 - (v5).toInt64))), (6, .int v4), (11, .long ((u32).toInt64 - (((S.1 1)).toInt64 - (v5).toInt64))), (10, .int (S.1 1)), (0, .ref (ga G 63)), (1, .int v1), (2, .int v2), (4, .int v4), (5, .int v5), (9, .int v9)]) hx hb dX9_parts_189 hl (by decide) rfl (fun ls hl => ?_)
            refine lv_iload hx hb dX9_parts_191 (lv_at hl 9 rfl) ?_
            refine lv_istore (lv' := [(4, .int v9), (7, .long ((u32).toInt64 - (((S.1 1)).toInt64 - (v5).toInt64))), (6, .int v4), (11, .long ((u32).toInt64 - (((S.1 1)).toInt64 - (v5).toInt64))), (10, .int (S.1 1)), (0, .ref (ga G 63)), (1, .int v1), (2, .int v2), (5, .int v5), (9, .int v9)]) hx hb dX9_parts_193 hl (by decide) rfl (fun ls hl => ?_)
            refine lv_iload hx hb dX9_parts_195 (lv_at hl 4 rfl) ?_
            refine lv_istore (lv' := [(5, .int (S.1 1)), (4, .int v9), (7, .long ((u32).toInt64 - (((S.1 1)).toInt64 - (v5).toInt64))), (6, .int v4), (11, .long ((u32).toInt64 - (((S.1 1)).toInt64 - (v5).toInt64))), (10, .int (S.1 1)), (0, .ref (ga G 63)), (1, .int v1), (2, .int v2), (9, .int v9)]) hx hb dX9_parts_197 hl (by decide) rfl (fun ls hl => ?_)
            refine lv_iinc (v := (v9 + 1)) (lv' := [(9, .int (v9 + 1)), (5, .int (S.1 1)), (4, .int v9), (7, .long ((u32).toInt64 - (((S.1 1)).toInt64 - (v5).toInt64))), (6, .int v4), (11, .long ((u32).toInt64 - (((S.1 1)).toInt64 - (v5).toInt64))), (10, .int (S.1 1)), (0, .ref (ga G 63)), (1, .int v1), (2, .int v2)]) hx hb dX9_parts_199 hl (k := 9) rfl rfl (by decide) rfl (fun ls hl => ?_)
            refine lv_goto (tgt := 70) hx hb dX9_parts_202 (by decide) ?_
            exact ih _ _ _ _ _ _ _ _ _ _ _ hf hP hS (lv_sub hl [7, 8, 9, 2, 1, 4, 3, 0] rfl) kk
          · have hf := g_iff hf c34
            refine lv_lload hx hb dX9_parts_149 (lv_at hl 0 rfl) ?_
            refine lv_lconst (v := 0) hx hb dX9_parts_151 (by decide) ?_
            refine W.lcmp hx hb dX9_parts_152 ?_
            refine lv_if_ge (tgt := 162) hx hb dX9_parts_153 (by decide) (fun c35 => ?_) (fun c35 => ?_)
            · have hf := g_ift hf c35
              refine lv_lload hx hb dX9_parts_162 (lv_at hl 0 rfl) ?_
              refine lv_lload hx hb dX9_parts_164 (lv_at hl 8 rfl) ?_
              refine lv_lconst (v := 0) hx hb dX9_parts_166 (by decide) ?_
              refine W.lcmp hx hb dX9_parts_167 ?_
              refine lv_if_ge (tgt := 177) hx hb dX9_parts_168 (by decide) (fun c36 => ?_) (fun c36 => ?_)
              · have hf := g_ift hf c36
                refine lv_lload hx hb dX9_parts_177 (lv_at hl 8 rfl) ?_
                refine W.lcmp hx hb dX9_parts_179 ?_
                refine lv_if_le (tgt := 191) hx hb dX9_parts_180 (by decide) (fun c37 => ?_) (fun c37 => ?_)
                · have hf := g_ift hf c37
                  refine lv_iload hx hb dX9_parts_191 (lv_at hl 9 rfl) ?_
                  refine lv_istore (lv' := [(4, .int v9), (11, .long ((u32).toInt64 - (((S.1 1)).toInt64 - (v5).toInt64))), (10, .int (S.1 1)), (0, .ref (ga G 63)), (1, .int v1), (2, .int v2), (5, .int v5), (6, .int v6), (7, .long v7), (9, .int v9)]) hx hb dX9_parts_193 hl (by decide) rfl (fun ls hl => ?_)
                  refine lv_iload hx hb dX9_parts_195 (lv_at hl 2 rfl) ?_
                  refine lv_istore (lv' := [(5, .int (S.1 1)), (4, .int v9), (11, .long ((u32).toInt64 - (((S.1 1)).toInt64 - (v5).toInt64))), (10, .int (S.1 1)), (0, .ref (ga G 63)), (1, .int v1), (2, .int v2), (6, .int v6), (7, .long v7), (9, .int v9)]) hx hb dX9_parts_197 hl (by decide) rfl (fun ls hl => ?_)
                  refine lv_iinc (v := (v9 + 1)) (lv' := [(9, .int (v9 + 1)), (5, .int (S.1 1)), (4, .int v9), (11, .long ((u32).toInt64 - (((S.1 1)).toInt64 - (v5).toInt64))), (10, .int (S.1 1)), (0, .ref (ga G 63)), (1, .int v1), (2, .int v2), (6, .int v6), (7, .long v7)]) hx hb dX9_parts_199 hl (k := 9) rfl rfl (by decide) rfl (fun ls hl => ?_)
                  refine lv_goto (tgt := 70) hx hb dX9_parts_202 (by decide) ?_
                  exact ih _ _ _ _ _ _ _ _ _ _ _ hf hP hS (lv_sub hl [5, 6, 7, 2, 1, 8, 9, 0] rfl) kk
                · have hf := g_iff hf c37
                  refine lv_iload hx hb dX9_parts_183 (lv_at hl 5 rfl) ?_
                  refine lv_istore (lv' := [(6, .int v4), (11, .long ((u32).toInt64 - (((S.1 1)).toInt64 - (v5).toInt64))), (10, .int (S.1 1)), (0, .ref (ga G 63)), (1, .int v1), (2, .int v2), (4, .int v4), (5, .int v5), (7, .long v7), (9, .int v9)]) hx hb dX9_parts_185 hl (by decide) rfl (fun ls hl => ?_)
                  refine lv_lload hx hb dX9_parts_187 (lv_at hl 1 rfl) ?_
                  refine lv_lstore (lv' := [(7, .long ((u32).toInt64 - (((S.1 1)).toInt64 - (v5).toInt64))), (6, .int v4), (11, .long ((u32).toInt64 - (((S.1 1)).toInt64 - (v5).toInt64))), (10, .int (S.1 1)), (0, .ref (ga G 63)), (1, .int v1), (2, .int v2), (4, .int v4), (5, .int v5), (9, .int v9)]) hx hb dX9_parts_189 hl (by decide) rfl (fun ls hl => ?_)
                  refine lv_iload hx hb dX9_parts_191 (lv_at hl 9 rfl) ?_
                  refine lv_istore (lv' := [(4, .int v9), (7, .long ((u32).toInt64 - (((S.1 1)).toInt64 - (v5).toInt64))), (6, .int v4), (11, .long ((u32).toInt64 - (((S.1 1)).toInt64 - (v5).toInt64))), (10, .int (S.1 1)), (0, .ref (ga G 63)), (1, .int v1), (2, .int v2), (5, .int v5), (9, .int v9)]) hx hb dX9_parts_193 hl (by decide) rfl (fun ls hl => ?_)
                  refine lv_iload hx hb dX9_parts_195 (lv_at hl 4 rfl) ?_
                  refine lv_istore (lv' := [(5, .int (S.1 1)), (4, .int v9), (7, .long ((u32).toInt64 - (((S.1 1)).toInt64 - (v5).toInt64))), (6, .int v4), (11, .long ((u32).toInt64 - (((S.1 1)).toInt64 - (v5).toInt64))), (10, .int (S.1 1)), (0, .ref (ga G 63)), (1, .int v1), (2, .int v2), (9, .int v9)]) hx hb dX9_parts_197 hl (by decide) rfl (fun ls hl => ?_)
                  refine lv_iinc (v := (v9 + 1)) (lv' := [(9, .int (v9 + 1)), (5, .int (S.1 1)), (4, .int v9), (7, .long ((u32).toInt64 - (((S.1 1)).toInt64 - (v5).toInt64))), (6, .int v4), (11, .long ((u32).toInt64 - (((S.1 1)).toInt64 - (v5).toInt64))), (10, .int (S.1 1)), (0, .ref (ga G 63)), (1, .int v1), (2, .int v2)]) hx hb dX9_parts_199 hl (k := 9) rfl rfl (by decide) rfl (fun ls hl => ?_)
                  refine lv_goto (tgt := 70) hx hb dX9_parts_202 (by decide) ?_
                  exact ih _ _ _ _ _ _ _ _ _ _ _ hf hP hS (lv_sub hl [7, 8, 9, 2, 1, 4, 3, 0] rfl) kk
              · have hf := g_iff hf c36
                refine lv_lload hx hb dX9_parts_171 (lv_at hl 8 rfl) ?_
                refine lv_lneg hx hb dX9_parts_173 ?_
                refine lv_goto (tgt := 179) hx hb dX9_parts_174 (by decide) ?_
                refine W.lcmp hx hb dX9_parts_179 ?_
                refine lv_if_le (tgt := 191) hx hb dX9_parts_180 (by decide) (fun c38 => ?_) (fun c38 => ?_)
                · have hf := g_ift hf c38
                  refine lv_iload hx hb dX9_parts_191 (lv_at hl 9 rfl) ?_
                  refine lv_istore (lv' := [(4, .int v9), (11, .long ((u32).toInt64 - (((S.1 1)).toInt64 - (v5).toInt64))), (10, .int (S.1 1)), (0, .ref (ga G 63)), (1, .int v1), (2, .int v2), (5, .int v5), (6, .int v6), (7, .long v7), (9, .int v9)]) hx hb dX9_parts_193 hl (by decide) rfl (fun ls hl => ?_)
                  refine lv_iload hx hb dX9_parts_195 (lv_at hl 2 rfl) ?_
                  refine lv_istore (lv' := [(5, .int (S.1 1)), (4, .int v9), (11, .long ((u32).toInt64 - (((S.1 1)).toInt64 - (v5).toInt64))), (10, .int (S.1 1)), (0, .ref (ga G 63)), (1, .int v1), (2, .int v2), (6, .int v6), (7, .long v7), (9, .int v9)]) hx hb dX9_parts_197 hl (by decide) rfl (fun ls hl => ?_)
                  refine lv_iinc (v := (v9 + 1)) (lv' := [(9, .int (v9 + 1)), (5, .int (S.1 1)), (4, .int v9), (11, .long ((u32).toInt64 - (((S.1 1)).toInt64 - (v5).toInt64))), (10, .int (S.1 1)), (0, .ref (ga G 63)), (1, .int v1), (2, .int v2), (6, .int v6), (7, .long v7)]) hx hb dX9_parts_199 hl (k := 9) rfl rfl (by decide) rfl (fun ls hl => ?_)
                  refine lv_goto (tgt := 70) hx hb dX9_parts_202 (by decide) ?_
                  exact ih _ _ _ _ _ _ _ _ _ _ _ hf hP hS (lv_sub hl [5, 6, 7, 2, 1, 8, 9, 0] rfl) kk
                · have hf := g_iff hf c38
                  refine lv_iload hx hb dX9_parts_183 (lv_at hl 5 rfl) ?_
                  refine lv_istore (lv' := [(6, .int v4), (11, .long ((u32).toInt64 - (((S.1 1)).toInt64 - (v5).toInt64))), (10, .int (S.1 1)), (0, .ref (ga G 63)), (1, .int v1), (2, .int v2), (4, .int v4), (5, .int v5), (7, .long v7), (9, .int v9)]) hx hb dX9_parts_185 hl (by decide) rfl (fun ls hl => ?_)
                  refine lv_lload hx hb dX9_parts_187 (lv_at hl 1 rfl) ?_
                  refine lv_lstore (lv' := [(7, .long ((u32).toInt64 - (((S.1 1)).toInt64 - (v5).toInt64))), (6, .int v4), (11, .long ((u32).toInt64 - (((S.1 1)).toInt64 - (v5).toInt64))), (10, .int (S.1 1)), (0, .ref (ga G 63)), (1, .int v1), (2, .int v2), (4, .int v4), (5, .int v5), (9, .int v9)]) hx hb dX9_parts_189 hl (by decide) rfl (fun ls hl => ?_)
                  refine lv_iload hx hb dX9_parts_191 (lv_at hl 9 rfl) ?_
                  refine lv_istore (lv' := [(4, .int v9), (7, .long ((u32).toInt64 - (((S.1 1)).toInt64 - (v5).toInt64))), (6, .int v4), (11, .long ((u32).toInt64 - (((S.1 1)).toInt64 - (v5).toInt64))), (10, .int (S.1 1)), (0, .ref (ga G 63)), (1, .int v1), (2, .int v2), (5, .int v5), (9, .int v9)]) hx hb dX9_parts_193 hl (by decide) rfl (fun ls hl => ?_)
                  refine lv_iload hx hb dX9_parts_195 (lv_at hl 4 rfl) ?_
                  refine lv_istore (lv' := [(5, .int (S.1 1)), (4, .int v9), (7, .long ((u32).toInt64 - (((S.1 1)).toInt64 - (v5).toInt64))), (6, .int v4), (11, .long ((u32).toInt64 - (((S.1 1)).toInt64 - (v5).toInt64))), (10, .int (S.1 1)), (0, .ref (ga G 63)), (1, .int v1), (2, .int v2), (9, .int v9)]) hx hb dX9_parts_197 hl (by decide) rfl (fun ls hl => ?_)
                  refine lv_iinc (v := (v9 + 1)) (lv' := [(9, .int (v9 + 1)), (5, .int (S.1 1)), (4, .int v9), (7, .long ((u32).toInt64 - (((S.1 1)).toInt64 - (v5).toInt64))), (6, .int v4), (11, .long ((u32).toInt64 - (((S.1 1)).toInt64 - (v5).toInt64))), (10, .int (S.1 1)), (0, .ref (ga G 63)), (1, .int v1), (2, .int v2)]) hx hb dX9_parts_199 hl (k := 9) rfl rfl (by decide) rfl (fun ls hl => ?_)
                  refine lv_goto (tgt := 70) hx hb dX9_parts_202 (by decide) ?_
                  exact ih _ _ _ _ _ _ _ _ _ _ _ hf hP hS (lv_sub hl [7, 8, 9, 2, 1, 4, 3, 0] rfl) kk
            · have hf := g_iff hf c35
              refine lv_lload hx hb dX9_parts_156 (lv_at hl 0 rfl) ?_
              refine lv_lneg hx hb dX9_parts_158 ?_
              refine lv_goto (tgt := 164) hx hb dX9_parts_159 (by decide) ?_
              refine lv_lload hx hb dX9_parts_164 (lv_at hl 8 rfl) ?_
              refine lv_lconst (v := 0) hx hb dX9_parts_166 (by decide) ?_
              refine W.lcmp hx hb dX9_parts_167 ?_
              refine lv_if_ge (tgt := 177) hx hb dX9_parts_168 (by decide) (fun c39 => ?_) (fun c39 => ?_)
              · have hf := g_ift hf c39
                refine lv_lload hx hb dX9_parts_177 (lv_at hl 8 rfl) ?_
                refine W.lcmp hx hb dX9_parts_179 ?_
                refine lv_if_le (tgt := 191) hx hb dX9_parts_180 (by decide) (fun c40 => ?_) (fun c40 => ?_)
                · have hf := g_ift hf c40
                  refine lv_iload hx hb dX9_parts_191 (lv_at hl 9 rfl) ?_
                  refine lv_istore (lv' := [(4, .int v9), (11, .long ((u32).toInt64 - (((S.1 1)).toInt64 - (v5).toInt64))), (10, .int (S.1 1)), (0, .ref (ga G 63)), (1, .int v1), (2, .int v2), (5, .int v5), (6, .int v6), (7, .long v7), (9, .int v9)]) hx hb dX9_parts_193 hl (by decide) rfl (fun ls hl => ?_)
                  refine lv_iload hx hb dX9_parts_195 (lv_at hl 2 rfl) ?_
                  refine lv_istore (lv' := [(5, .int (S.1 1)), (4, .int v9), (11, .long ((u32).toInt64 - (((S.1 1)).toInt64 - (v5).toInt64))), (10, .int (S.1 1)), (0, .ref (ga G 63)), (1, .int v1), (2, .int v2), (6, .int v6), (7, .long v7), (9, .int v9)]) hx hb dX9_parts_197 hl (by decide) rfl (fun ls hl => ?_)
                  refine lv_iinc (v := (v9 + 1)) (lv' := [(9, .int (v9 + 1)), (5, .int (S.1 1)), (4, .int v9), (11, .long ((u32).toInt64 - (((S.1 1)).toInt64 - (v5).toInt64))), (10, .int (S.1 1)), (0, .ref (ga G 63)), (1, .int v1), (2, .int v2), (6, .int v6), (7, .long v7)]) hx hb dX9_parts_199 hl (k := 9) rfl rfl (by decide) rfl (fun ls hl => ?_)
                  refine lv_goto (tgt := 70) hx hb dX9_parts_202 (by decide) ?_
                  exact ih _ _ _ _ _ _ _ _ _ _ _ hf hP hS (lv_sub hl [5, 6, 7, 2, 1, 8, 9, 0] rfl) kk
                · have hf := g_iff hf c40
                  refine lv_iload hx hb dX9_parts_183 (lv_at hl 5 rfl) ?_
                  refine lv_istore (lv' := [(6, .int v4), (11, .long ((u32).toInt64 - (((S.1 1)).toInt64 - (v5).toInt64))), (10, .int (S.1 1)), (0, .ref (ga G 63)), (1, .int v1), (2, .int v2), (4, .int v4), (5, .int v5), (7, .long v7), (9, .int v9)]) hx hb dX9_parts_185 hl (by decide) rfl (fun ls hl => ?_)
                  refine lv_lload hx hb dX9_parts_187 (lv_at hl 1 rfl) ?_
                  refine lv_lstore (lv' := [(7, .long ((u32).toInt64 - (((S.1 1)).toInt64 - (v5).toInt64))), (6, .int v4), (11, .long ((u32).toInt64 - (((S.1 1)).toInt64 - (v5).toInt64))), (10, .int (S.1 1)), (0, .ref (ga G 63)), (1, .int v1), (2, .int v2), (4, .int v4), (5, .int v5), (9, .int v9)]) hx hb dX9_parts_189 hl (by decide) rfl (fun ls hl => ?_)
                  refine lv_iload hx hb dX9_parts_191 (lv_at hl 9 rfl) ?_
                  refine lv_istore (lv' := [(4, .int v9), (7, .long ((u32).toInt64 - (((S.1 1)).toInt64 - (v5).toInt64))), (6, .int v4), (11, .long ((u32).toInt64 - (((S.1 1)).toInt64 - (v5).toInt64))), (10, .int (S.1 1)), (0, .ref (ga G 63)), (1, .int v1), (2, .int v2), (5, .int v5), (9, .int v9)]) hx hb dX9_parts_193 hl (by decide) rfl (fun ls hl => ?_)
                  refine lv_iload hx hb dX9_parts_195 (lv_at hl 4 rfl) ?_
                  refine lv_istore (lv' := [(5, .int (S.1 1)), (4, .int v9), (7, .long ((u32).toInt64 - (((S.1 1)).toInt64 - (v5).toInt64))), (6, .int v4), (11, .long ((u32).toInt64 - (((S.1 1)).toInt64 - (v5).toInt64))), (10, .int (S.1 1)), (0, .ref (ga G 63)), (1, .int v1), (2, .int v2), (9, .int v9)]) hx hb dX9_parts_197 hl (by decide) rfl (fun ls hl => ?_)
                  refine lv_iinc (v := (v9 + 1)) (lv' := [(9, .int (v9 + 1)), (5, .int (S.1 1)), (4, .int v9), (7, .long ((u32).toInt64 - (((S.1 1)).toInt64 - (v5).toInt64))), (6, .int v4), (11, .long ((u32).toInt64 - (((S.1 1)).toInt64 - (v5).toInt64))), (10, .int (S.1 1)), (0, .ref (ga G 63)), (1, .int v1), (2, .int v2)]) hx hb dX9_parts_199 hl (k := 9) rfl rfl (by decide) rfl (fun ls hl => ?_)
                  refine lv_goto (tgt := 70) hx hb dX9_parts_202 (by decide) ?_
                  exact ih _ _ _ _ _ _ _ _ _ _ _ hf hP hS (lv_sub hl [7, 8, 9, 2, 1, 4, 3, 0] rfl) kk
              · have hf := g_iff hf c39
                refine lv_lload hx hb dX9_parts_171 (lv_at hl 8 rfl) ?_
                refine lv_lneg hx hb dX9_parts_173 ?_
                refine lv_goto (tgt := 179) hx hb dX9_parts_174 (by decide) ?_
                refine W.lcmp hx hb dX9_parts_179 ?_
                refine lv_if_le (tgt := 191) hx hb dX9_parts_180 (by decide) (fun c41 => ?_) (fun c41 => ?_)
                · have hf := g_ift hf c41
                  refine lv_iload hx hb dX9_parts_191 (lv_at hl 9 rfl) ?_
                  refine lv_istore (lv' := [(4, .int v9), (11, .long ((u32).toInt64 - (((S.1 1)).toInt64 - (v5).toInt64))), (10, .int (S.1 1)), (0, .ref (ga G 63)), (1, .int v1), (2, .int v2), (5, .int v5), (6, .int v6), (7, .long v7), (9, .int v9)]) hx hb dX9_parts_193 hl (by decide) rfl (fun ls hl => ?_)
                  refine lv_iload hx hb dX9_parts_195 (lv_at hl 2 rfl) ?_
                  refine lv_istore (lv' := [(5, .int (S.1 1)), (4, .int v9), (11, .long ((u32).toInt64 - (((S.1 1)).toInt64 - (v5).toInt64))), (10, .int (S.1 1)), (0, .ref (ga G 63)), (1, .int v1), (2, .int v2), (6, .int v6), (7, .long v7), (9, .int v9)]) hx hb dX9_parts_197 hl (by decide) rfl (fun ls hl => ?_)
                  refine lv_iinc (v := (v9 + 1)) (lv' := [(9, .int (v9 + 1)), (5, .int (S.1 1)), (4, .int v9), (11, .long ((u32).toInt64 - (((S.1 1)).toInt64 - (v5).toInt64))), (10, .int (S.1 1)), (0, .ref (ga G 63)), (1, .int v1), (2, .int v2), (6, .int v6), (7, .long v7)]) hx hb dX9_parts_199 hl (k := 9) rfl rfl (by decide) rfl (fun ls hl => ?_)
                  refine lv_goto (tgt := 70) hx hb dX9_parts_202 (by decide) ?_
                  exact ih _ _ _ _ _ _ _ _ _ _ _ hf hP hS (lv_sub hl [5, 6, 7, 2, 1, 8, 9, 0] rfl) kk
                · have hf := g_iff hf c41
                  refine lv_iload hx hb dX9_parts_183 (lv_at hl 5 rfl) ?_
                  refine lv_istore (lv' := [(6, .int v4), (11, .long ((u32).toInt64 - (((S.1 1)).toInt64 - (v5).toInt64))), (10, .int (S.1 1)), (0, .ref (ga G 63)), (1, .int v1), (2, .int v2), (4, .int v4), (5, .int v5), (7, .long v7), (9, .int v9)]) hx hb dX9_parts_185 hl (by decide) rfl (fun ls hl => ?_)
                  refine lv_lload hx hb dX9_parts_187 (lv_at hl 1 rfl) ?_
                  refine lv_lstore (lv' := [(7, .long ((u32).toInt64 - (((S.1 1)).toInt64 - (v5).toInt64))), (6, .int v4), (11, .long ((u32).toInt64 - (((S.1 1)).toInt64 - (v5).toInt64))), (10, .int (S.1 1)), (0, .ref (ga G 63)), (1, .int v1), (2, .int v2), (4, .int v4), (5, .int v5), (9, .int v9)]) hx hb dX9_parts_189 hl (by decide) rfl (fun ls hl => ?_)
                  refine lv_iload hx hb dX9_parts_191 (lv_at hl 9 rfl) ?_
                  refine lv_istore (lv' := [(4, .int v9), (7, .long ((u32).toInt64 - (((S.1 1)).toInt64 - (v5).toInt64))), (6, .int v4), (11, .long ((u32).toInt64 - (((S.1 1)).toInt64 - (v5).toInt64))), (10, .int (S.1 1)), (0, .ref (ga G 63)), (1, .int v1), (2, .int v2), (5, .int v5), (9, .int v9)]) hx hb dX9_parts_193 hl (by decide) rfl (fun ls hl => ?_)
                  refine lv_iload hx hb dX9_parts_195 (lv_at hl 4 rfl) ?_
                  refine lv_istore (lv' := [(5, .int (S.1 1)), (4, .int v9), (7, .long ((u32).toInt64 - (((S.1 1)).toInt64 - (v5).toInt64))), (6, .int v4), (11, .long ((u32).toInt64 - (((S.1 1)).toInt64 - (v5).toInt64))), (10, .int (S.1 1)), (0, .ref (ga G 63)), (1, .int v1), (2, .int v2), (9, .int v9)]) hx hb dX9_parts_197 hl (by decide) rfl (fun ls hl => ?_)
                  refine lv_iinc (v := (v9 + 1)) (lv' := [(9, .int (v9 + 1)), (5, .int (S.1 1)), (4, .int v9), (7, .long ((u32).toInt64 - (((S.1 1)).toInt64 - (v5).toInt64))), (6, .int v4), (11, .long ((u32).toInt64 - (((S.1 1)).toInt64 - (v5).toInt64))), (10, .int (S.1 1)), (0, .ref (ga G 63)), (1, .int v1), (2, .int v2)]) hx hb dX9_parts_199 hl (k := 9) rfl rfl (by decide) rfl (fun ls hl => ?_)
                  refine lv_goto (tgt := 70) hx hb dX9_parts_202 (by decide) ?_
                  exact ih _ _ _ _ _ _ _ _ _ _ _ hf hP hS (lv_sub hl [7, 8, 9, 2, 1, 4, 3, 0] rfl) kk
        · have hf := g_ift hf c31
          refine lv_iload hx hb dX9_parts_112 (lv_at hl 8 rfl) ?_
          refine lv_aload_n hx hb dX9_parts_114 rfl (lv_at hl 1 rfl) ?_
          refine ggM_0 X E hP inX9_parts_X9 lkX9_parts_1 dX9_parts_115 ?_
          refine lv_icmp_ge (tgt := 124) hx hb dX9_parts_118 (by decide) (fun c42 => ?_) (fun c42 => ?_)
          · have hf := g_ift hf c42
            refine lv_aload_n hx hb dX9_parts_124 rfl (lv_at hl 1 rfl) ?_
            refine lv_iload hx hb dX9_parts_125 (lv_at hl 4 rfl) ?_
            refine lv_iload hx hb dX9_parts_127 (lv_at hl 8 rfl) ?_
            obtain ⟨u43, h44, hf⟩ := g_bind hf
            refine g_vi (rest := []) X E hP hS (tcX9_rises l G _ _ _ h44) (g_cwV X gX9_parts_X9_rises rfl hdX9_rises ⟨Nat.le_of_ble_eq_true rfl, Nat.le_of_ble_eq_true rfl⟩) (rcM_model E hP) rfl hl.1 rfl (Nat.le_of_ble_eq_true rfl) dX9_parts_129 ⟨Nat.le_refl _, Nat.le_refl _⟩ (fun H locs hP hS => ?_)
            refine lv_i2l hx hb dX9_parts_132 rfl ?_
            refine lv_iload hx hb dX9_parts_133 (lv_at hl 0 rfl) ?_
            refine lv_i2l hx hb dX9_parts_135 rfl ?_
            refine lv_iload hx hb dX9_parts_136 (lv_at hl 5 rfl) ?_
            refine lv_i2l hx hb dX9_parts_138 rfl ?_
            refine lv_lsub hx hb dX9_parts_139 ?_
            refine lv_lsub hx hb dX9_parts_140 ?_
            refine lv_lstore (lv' := [(11, .long ((u43).toInt64 - (((S.1 1)).toInt64 - (v5).toInt64))), (10, .int (S.1 1)), (0, .ref (ga G 63)), (1, .int v1), (2, .int v2), (4, .int v4), (5, .int v5), (6, .int v6), (7, .long v7), (9, .int v9)]) hx hb dX9_parts_141 hl (by decide) rfl (fun ls hl => ?_)
            refine lv_iload hx hb dX9_parts_143 (lv_at hl 7 rfl) ?_
            refine lv_iconst (v := -1) hx hb dX9_parts_145 (by decide) ?_
            refine lv_icmp_eq (tgt := 183) hx hb dX9_parts_146 (by decide) (fun c45 => ?_) (fun c45 => ?_)
            · have hf := g_ift hf c45
              refine lv_iload hx hb dX9_parts_183 (lv_at hl 5 rfl) ?_
              refine lv_istore (lv' := [(6, .int v4), (11, .long ((u43).toInt64 - (((S.1 1)).toInt64 - (v5).toInt64))), (10, .int (S.1 1)), (0, .ref (ga G 63)), (1, .int v1), (2, .int v2), (4, .int v4), (5, .int v5), (7, .long v7), (9, .int v9)]) hx hb dX9_parts_185 hl (by decide) rfl (fun ls hl => ?_)
              refine lv_lload hx hb dX9_parts_187 (lv_at hl 1 rfl) ?_
              refine lv_lstore (lv' := [(7, .long ((u43).toInt64 - (((S.1 1)).toInt64 - (v5).toInt64))), (6, .int v4), (11, .long ((u43).toInt64 - (((S.1 1)).toInt64 - (v5).toInt64))), (10, .int (S.1 1)), (0, .ref (ga G 63)), (1, .int v1), (2, .int v2), (4, .int v4), (5, .int v5), (9, .int v9)]) hx hb dX9_parts_189 hl (by decide) rfl (fun ls hl => ?_)
              refine lv_iload hx hb dX9_parts_191 (lv_at hl 9 rfl) ?_
              refine lv_istore (lv' := [(4, .int v9), (7, .long ((u43).toInt64 - (((S.1 1)).toInt64 - (v5).toInt64))), (6, .int v4), (11, .long ((u43).toInt64 - (((S.1 1)).toInt64 - (v5).toInt64))), (10, .int (S.1 1)), (0, .ref (ga G 63)), (1, .int v1), (2, .int v2), (5, .int v5), (9, .int v9)]) hx hb dX9_parts_193 hl (by decide) rfl (fun ls hl => ?_)
              refine lv_iload hx hb dX9_parts_195 (lv_at hl 4 rfl) ?_
              refine lv_istore (lv' := [(5, .int (S.1 1)), (4, .int v9), (7, .long ((u43).toInt64 - (((S.1 1)).toInt64 - (v5).toInt64))), (6, .int v4), (11, .long ((u43).toInt64 - (((S.1 1)).toInt64 - (v5).toInt64))), (10, .int (S.1 1)), (0, .ref (ga G 63)), (1, .int v1), (2, .int v2), (9, .int v9)]) hx hb dX9_parts_197 hl (by decide) rfl (fun ls hl => ?_)
              refine lv_iinc (v := (v9 + 1)) (lv' := [(9, .int (v9 + 1)), (5, .int (S.1 1)), (4, .int v9), (7, .long ((u43).toInt64 - (((S.1 1)).toInt64 - (v5).toInt64))), (6, .int v4), (11, .long ((u43).toInt64 - (((S.1 1)).toInt64 - (v5).toInt64))), (10, .int (S.1 1)), (0, .ref (ga G 63)), (1, .int v1), (2, .int v2)]) hx hb dX9_parts_199 hl (k := 9) rfl rfl (by decide) rfl (fun ls hl => ?_)
              refine lv_goto (tgt := 70) hx hb dX9_parts_202 (by decide) ?_
              exact ih _ _ _ _ _ _ _ _ _ _ _ hf hP hS (lv_sub hl [7, 8, 9, 2, 1, 4, 3, 0] rfl) kk
            · have hf := g_iff hf c45
              refine lv_lload hx hb dX9_parts_149 (lv_at hl 0 rfl) ?_
              refine lv_lconst (v := 0) hx hb dX9_parts_151 (by decide) ?_
              refine W.lcmp hx hb dX9_parts_152 ?_
              refine lv_if_ge (tgt := 162) hx hb dX9_parts_153 (by decide) (fun c46 => ?_) (fun c46 => ?_)
              · have hf := g_ift hf c46
                refine lv_lload hx hb dX9_parts_162 (lv_at hl 0 rfl) ?_
                refine lv_lload hx hb dX9_parts_164 (lv_at hl 8 rfl) ?_
                refine lv_lconst (v := 0) hx hb dX9_parts_166 (by decide) ?_
                refine W.lcmp hx hb dX9_parts_167 ?_
                refine lv_if_ge (tgt := 177) hx hb dX9_parts_168 (by decide) (fun c47 => ?_) (fun c47 => ?_)
                · have hf := g_ift hf c47
                  refine lv_lload hx hb dX9_parts_177 (lv_at hl 8 rfl) ?_
                  refine W.lcmp hx hb dX9_parts_179 ?_
                  refine lv_if_le (tgt := 191) hx hb dX9_parts_180 (by decide) (fun c48 => ?_) (fun c48 => ?_)
                  · have hf := g_ift hf c48
                    refine lv_iload hx hb dX9_parts_191 (lv_at hl 9 rfl) ?_
                    refine lv_istore (lv' := [(4, .int v9), (11, .long ((u43).toInt64 - (((S.1 1)).toInt64 - (v5).toInt64))), (10, .int (S.1 1)), (0, .ref (ga G 63)), (1, .int v1), (2, .int v2), (5, .int v5), (6, .int v6), (7, .long v7), (9, .int v9)]) hx hb dX9_parts_193 hl (by decide) rfl (fun ls hl => ?_)
                    refine lv_iload hx hb dX9_parts_195 (lv_at hl 2 rfl) ?_
                    refine lv_istore (lv' := [(5, .int (S.1 1)), (4, .int v9), (11, .long ((u43).toInt64 - (((S.1 1)).toInt64 - (v5).toInt64))), (10, .int (S.1 1)), (0, .ref (ga G 63)), (1, .int v1), (2, .int v2), (6, .int v6), (7, .long v7), (9, .int v9)]) hx hb dX9_parts_197 hl (by decide) rfl (fun ls hl => ?_)
                    refine lv_iinc (v := (v9 + 1)) (lv' := [(9, .int (v9 + 1)), (5, .int (S.1 1)), (4, .int v9), (11, .long ((u43).toInt64 - (((S.1 1)).toInt64 - (v5).toInt64))), (10, .int (S.1 1)), (0, .ref (ga G 63)), (1, .int v1), (2, .int v2), (6, .int v6), (7, .long v7)]) hx hb dX9_parts_199 hl (k := 9) rfl rfl (by decide) rfl (fun ls hl => ?_)
                    refine lv_goto (tgt := 70) hx hb dX9_parts_202 (by decide) ?_
                    exact ih _ _ _ _ _ _ _ _ _ _ _ hf hP hS (lv_sub hl [5, 6, 7, 2, 1, 8, 9, 0] rfl) kk
                  · have hf := g_iff hf c48
                    refine lv_iload hx hb dX9_parts_183 (lv_at hl 5 rfl) ?_
                    refine lv_istore (lv' := [(6, .int v4), (11, .long ((u43).toInt64 - (((S.1 1)).toInt64 - (v5).toInt64))), (10, .int (S.1 1)), (0, .ref (ga G 63)), (1, .int v1), (2, .int v2), (4, .int v4), (5, .int v5), (7, .long v7), (9, .int v9)]) hx hb dX9_parts_185 hl (by decide) rfl (fun ls hl => ?_)
                    refine lv_lload hx hb dX9_parts_187 (lv_at hl 1 rfl) ?_
                    refine lv_lstore (lv' := [(7, .long ((u43).toInt64 - (((S.1 1)).toInt64 - (v5).toInt64))), (6, .int v4), (11, .long ((u43).toInt64 - (((S.1 1)).toInt64 - (v5).toInt64))), (10, .int (S.1 1)), (0, .ref (ga G 63)), (1, .int v1), (2, .int v2), (4, .int v4), (5, .int v5), (9, .int v9)]) hx hb dX9_parts_189 hl (by decide) rfl (fun ls hl => ?_)
                    refine lv_iload hx hb dX9_parts_191 (lv_at hl 9 rfl) ?_
                    refine lv_istore (lv' := [(4, .int v9), (7, .long ((u43).toInt64 - (((S.1 1)).toInt64 - (v5).toInt64))), (6, .int v4), (11, .long ((u43).toInt64 - (((S.1 1)).toInt64 - (v5).toInt64))), (10, .int (S.1 1)), (0, .ref (ga G 63)), (1, .int v1), (2, .int v2), (5, .int v5), (9, .int v9)]) hx hb dX9_parts_193 hl (by decide) rfl (fun ls hl => ?_)
                    refine lv_iload hx hb dX9_parts_195 (lv_at hl 4 rfl) ?_
                    refine lv_istore (lv' := [(5, .int (S.1 1)), (4, .int v9), (7, .long ((u43).toInt64 - (((S.1 1)).toInt64 - (v5).toInt64))), (6, .int v4), (11, .long ((u43).toInt64 - (((S.1 1)).toInt64 - (v5).toInt64))), (10, .int (S.1 1)), (0, .ref (ga G 63)), (1, .int v1), (2, .int v2), (9, .int v9)]) hx hb dX9_parts_197 hl (by decide) rfl (fun ls hl => ?_)
                    refine lv_iinc (v := (v9 + 1)) (lv' := [(9, .int (v9 + 1)), (5, .int (S.1 1)), (4, .int v9), (7, .long ((u43).toInt64 - (((S.1 1)).toInt64 - (v5).toInt64))), (6, .int v4), (11, .long ((u43).toInt64 - (((S.1 1)).toInt64 - (v5).toInt64))), (10, .int (S.1 1)), (0, .ref (ga G 63)), (1, .int v1), (2, .int v2)]) hx hb dX9_parts_199 hl (k := 9) rfl rfl (by decide) rfl (fun ls hl => ?_)
                    refine lv_goto (tgt := 70) hx hb dX9_parts_202 (by decide) ?_
                    exact ih _ _ _ _ _ _ _ _ _ _ _ hf hP hS (lv_sub hl [7, 8, 9, 2, 1, 4, 3, 0] rfl) kk
                · have hf := g_iff hf c47
                  refine lv_lload hx hb dX9_parts_171 (lv_at hl 8 rfl) ?_
                  refine lv_lneg hx hb dX9_parts_173 ?_
                  refine lv_goto (tgt := 179) hx hb dX9_parts_174 (by decide) ?_
                  refine W.lcmp hx hb dX9_parts_179 ?_
                  refine lv_if_le (tgt := 191) hx hb dX9_parts_180 (by decide) (fun c49 => ?_) (fun c49 => ?_)
                  · have hf := g_ift hf c49
                    refine lv_iload hx hb dX9_parts_191 (lv_at hl 9 rfl) ?_
                    refine lv_istore (lv' := [(4, .int v9), (11, .long ((u43).toInt64 - (((S.1 1)).toInt64 - (v5).toInt64))), (10, .int (S.1 1)), (0, .ref (ga G 63)), (1, .int v1), (2, .int v2), (5, .int v5), (6, .int v6), (7, .long v7), (9, .int v9)]) hx hb dX9_parts_193 hl (by decide) rfl (fun ls hl => ?_)
                    refine lv_iload hx hb dX9_parts_195 (lv_at hl 2 rfl) ?_
                    refine lv_istore (lv' := [(5, .int (S.1 1)), (4, .int v9), (11, .long ((u43).toInt64 - (((S.1 1)).toInt64 - (v5).toInt64))), (10, .int (S.1 1)), (0, .ref (ga G 63)), (1, .int v1), (2, .int v2), (6, .int v6), (7, .long v7), (9, .int v9)]) hx hb dX9_parts_197 hl (by decide) rfl (fun ls hl => ?_)
                    refine lv_iinc (v := (v9 + 1)) (lv' := [(9, .int (v9 + 1)), (5, .int (S.1 1)), (4, .int v9), (11, .long ((u43).toInt64 - (((S.1 1)).toInt64 - (v5).toInt64))), (10, .int (S.1 1)), (0, .ref (ga G 63)), (1, .int v1), (2, .int v2), (6, .int v6), (7, .long v7)]) hx hb dX9_parts_199 hl (k := 9) rfl rfl (by decide) rfl (fun ls hl => ?_)
                    refine lv_goto (tgt := 70) hx hb dX9_parts_202 (by decide) ?_
                    exact ih _ _ _ _ _ _ _ _ _ _ _ hf hP hS (lv_sub hl [5, 6, 7, 2, 1, 8, 9, 0] rfl) kk
                  · have hf := g_iff hf c49
                    refine lv_iload hx hb dX9_parts_183 (lv_at hl 5 rfl) ?_
                    refine lv_istore (lv' := [(6, .int v4), (11, .long ((u43).toInt64 - (((S.1 1)).toInt64 - (v5).toInt64))), (10, .int (S.1 1)), (0, .ref (ga G 63)), (1, .int v1), (2, .int v2), (4, .int v4), (5, .int v5), (7, .long v7), (9, .int v9)]) hx hb dX9_parts_185 hl (by decide) rfl (fun ls hl => ?_)
                    refine lv_lload hx hb dX9_parts_187 (lv_at hl 1 rfl) ?_
                    refine lv_lstore (lv' := [(7, .long ((u43).toInt64 - (((S.1 1)).toInt64 - (v5).toInt64))), (6, .int v4), (11, .long ((u43).toInt64 - (((S.1 1)).toInt64 - (v5).toInt64))), (10, .int (S.1 1)), (0, .ref (ga G 63)), (1, .int v1), (2, .int v2), (4, .int v4), (5, .int v5), (9, .int v9)]) hx hb dX9_parts_189 hl (by decide) rfl (fun ls hl => ?_)
                    refine lv_iload hx hb dX9_parts_191 (lv_at hl 9 rfl) ?_
                    refine lv_istore (lv' := [(4, .int v9), (7, .long ((u43).toInt64 - (((S.1 1)).toInt64 - (v5).toInt64))), (6, .int v4), (11, .long ((u43).toInt64 - (((S.1 1)).toInt64 - (v5).toInt64))), (10, .int (S.1 1)), (0, .ref (ga G 63)), (1, .int v1), (2, .int v2), (5, .int v5), (9, .int v9)]) hx hb dX9_parts_193 hl (by decide) rfl (fun ls hl => ?_)
                    refine lv_iload hx hb dX9_parts_195 (lv_at hl 4 rfl) ?_
                    refine lv_istore (lv' := [(5, .int (S.1 1)), (4, .int v9), (7, .long ((u43).toInt64 - (((S.1 1)).toInt64 - (v5).toInt64))), (6, .int v4), (11, .long ((u43).toInt64 - (((S.1 1)).toInt64 - (v5).toInt64))), (10, .int (S.1 1)), (0, .ref (ga G 63)), (1, .int v1), (2, .int v2), (9, .int v9)]) hx hb dX9_parts_197 hl (by decide) rfl (fun ls hl => ?_)
                    refine lv_iinc (v := (v9 + 1)) (lv' := [(9, .int (v9 + 1)), (5, .int (S.1 1)), (4, .int v9), (7, .long ((u43).toInt64 - (((S.1 1)).toInt64 - (v5).toInt64))), (6, .int v4), (11, .long ((u43).toInt64 - (((S.1 1)).toInt64 - (v5).toInt64))), (10, .int (S.1 1)), (0, .ref (ga G 63)), (1, .int v1), (2, .int v2)]) hx hb dX9_parts_199 hl (k := 9) rfl rfl (by decide) rfl (fun ls hl => ?_)
                    refine lv_goto (tgt := 70) hx hb dX9_parts_202 (by decide) ?_
                    exact ih _ _ _ _ _ _ _ _ _ _ _ hf hP hS (lv_sub hl [7, 8, 9, 2, 1, 4, 3, 0] rfl) kk
              · have hf := g_iff hf c46
                refine lv_lload hx hb dX9_parts_156 (lv_at hl 0 rfl) ?_
                refine lv_lneg hx hb dX9_parts_158 ?_
                refine lv_goto (tgt := 164) hx hb dX9_parts_159 (by decide) ?_
                refine lv_lload hx hb dX9_parts_164 (lv_at hl 8 rfl) ?_
                refine lv_lconst (v := 0) hx hb dX9_parts_166 (by decide) ?_
                refine W.lcmp hx hb dX9_parts_167 ?_
                refine lv_if_ge (tgt := 177) hx hb dX9_parts_168 (by decide) (fun c50 => ?_) (fun c50 => ?_)
                · have hf := g_ift hf c50
                  refine lv_lload hx hb dX9_parts_177 (lv_at hl 8 rfl) ?_
                  refine W.lcmp hx hb dX9_parts_179 ?_
                  refine lv_if_le (tgt := 191) hx hb dX9_parts_180 (by decide) (fun c51 => ?_) (fun c51 => ?_)
                  · have hf := g_ift hf c51
                    refine lv_iload hx hb dX9_parts_191 (lv_at hl 9 rfl) ?_
                    refine lv_istore (lv' := [(4, .int v9), (11, .long ((u43).toInt64 - (((S.1 1)).toInt64 - (v5).toInt64))), (10, .int (S.1 1)), (0, .ref (ga G 63)), (1, .int v1), (2, .int v2), (5, .int v5), (6, .int v6), (7, .long v7), (9, .int v9)]) hx hb dX9_parts_193 hl (by decide) rfl (fun ls hl => ?_)
                    refine lv_iload hx hb dX9_parts_195 (lv_at hl 2 rfl) ?_
                    refine lv_istore (lv' := [(5, .int (S.1 1)), (4, .int v9), (11, .long ((u43).toInt64 - (((S.1 1)).toInt64 - (v5).toInt64))), (10, .int (S.1 1)), (0, .ref (ga G 63)), (1, .int v1), (2, .int v2), (6, .int v6), (7, .long v7), (9, .int v9)]) hx hb dX9_parts_197 hl (by decide) rfl (fun ls hl => ?_)
                    refine lv_iinc (v := (v9 + 1)) (lv' := [(9, .int (v9 + 1)), (5, .int (S.1 1)), (4, .int v9), (11, .long ((u43).toInt64 - (((S.1 1)).toInt64 - (v5).toInt64))), (10, .int (S.1 1)), (0, .ref (ga G 63)), (1, .int v1), (2, .int v2), (6, .int v6), (7, .long v7)]) hx hb dX9_parts_199 hl (k := 9) rfl rfl (by decide) rfl (fun ls hl => ?_)
                    refine lv_goto (tgt := 70) hx hb dX9_parts_202 (by decide) ?_
                    exact ih _ _ _ _ _ _ _ _ _ _ _ hf hP hS (lv_sub hl [5, 6, 7, 2, 1, 8, 9, 0] rfl) kk
                  · have hf := g_iff hf c51
                    refine lv_iload hx hb dX9_parts_183 (lv_at hl 5 rfl) ?_
                    refine lv_istore (lv' := [(6, .int v4), (11, .long ((u43).toInt64 - (((S.1 1)).toInt64 - (v5).toInt64))), (10, .int (S.1 1)), (0, .ref (ga G 63)), (1, .int v1), (2, .int v2), (4, .int v4), (5, .int v5), (7, .long v7), (9, .int v9)]) hx hb dX9_parts_185 hl (by decide) rfl (fun ls hl => ?_)
                    refine lv_lload hx hb dX9_parts_187 (lv_at hl 1 rfl) ?_
                    refine lv_lstore (lv' := [(7, .long ((u43).toInt64 - (((S.1 1)).toInt64 - (v5).toInt64))), (6, .int v4), (11, .long ((u43).toInt64 - (((S.1 1)).toInt64 - (v5).toInt64))), (10, .int (S.1 1)), (0, .ref (ga G 63)), (1, .int v1), (2, .int v2), (4, .int v4), (5, .int v5), (9, .int v9)]) hx hb dX9_parts_189 hl (by decide) rfl (fun ls hl => ?_)
                    refine lv_iload hx hb dX9_parts_191 (lv_at hl 9 rfl) ?_
                    refine lv_istore (lv' := [(4, .int v9), (7, .long ((u43).toInt64 - (((S.1 1)).toInt64 - (v5).toInt64))), (6, .int v4), (11, .long ((u43).toInt64 - (((S.1 1)).toInt64 - (v5).toInt64))), (10, .int (S.1 1)), (0, .ref (ga G 63)), (1, .int v1), (2, .int v2), (5, .int v5), (9, .int v9)]) hx hb dX9_parts_193 hl (by decide) rfl (fun ls hl => ?_)
                    refine lv_iload hx hb dX9_parts_195 (lv_at hl 4 rfl) ?_
                    refine lv_istore (lv' := [(5, .int (S.1 1)), (4, .int v9), (7, .long ((u43).toInt64 - (((S.1 1)).toInt64 - (v5).toInt64))), (6, .int v4), (11, .long ((u43).toInt64 - (((S.1 1)).toInt64 - (v5).toInt64))), (10, .int (S.1 1)), (0, .ref (ga G 63)), (1, .int v1), (2, .int v2), (9, .int v9)]) hx hb dX9_parts_197 hl (by decide) rfl (fun ls hl => ?_)
                    refine lv_iinc (v := (v9 + 1)) (lv' := [(9, .int (v9 + 1)), (5, .int (S.1 1)), (4, .int v9), (7, .long ((u43).toInt64 - (((S.1 1)).toInt64 - (v5).toInt64))), (6, .int v4), (11, .long ((u43).toInt64 - (((S.1 1)).toInt64 - (v5).toInt64))), (10, .int (S.1 1)), (0, .ref (ga G 63)), (1, .int v1), (2, .int v2)]) hx hb dX9_parts_199 hl (k := 9) rfl rfl (by decide) rfl (fun ls hl => ?_)
                    refine lv_goto (tgt := 70) hx hb dX9_parts_202 (by decide) ?_
                    exact ih _ _ _ _ _ _ _ _ _ _ _ hf hP hS (lv_sub hl [7, 8, 9, 2, 1, 4, 3, 0] rfl) kk
                · have hf := g_iff hf c50
                  refine lv_lload hx hb dX9_parts_171 (lv_at hl 8 rfl) ?_
                  refine lv_lneg hx hb dX9_parts_173 ?_
                  refine lv_goto (tgt := 179) hx hb dX9_parts_174 (by decide) ?_
                  refine W.lcmp hx hb dX9_parts_179 ?_
                  refine lv_if_le (tgt := 191) hx hb dX9_parts_180 (by decide) (fun c52 => ?_) (fun c52 => ?_)
                  · have hf := g_ift hf c52
                    refine lv_iload hx hb dX9_parts_191 (lv_at hl 9 rfl) ?_
                    refine lv_istore (lv' := [(4, .int v9), (11, .long ((u43).toInt64 - (((S.1 1)).toInt64 - (v5).toInt64))), (10, .int (S.1 1)), (0, .ref (ga G 63)), (1, .int v1), (2, .int v2), (5, .int v5), (6, .int v6), (7, .long v7), (9, .int v9)]) hx hb dX9_parts_193 hl (by decide) rfl (fun ls hl => ?_)
                    refine lv_iload hx hb dX9_parts_195 (lv_at hl 2 rfl) ?_
                    refine lv_istore (lv' := [(5, .int (S.1 1)), (4, .int v9), (11, .long ((u43).toInt64 - (((S.1 1)).toInt64 - (v5).toInt64))), (10, .int (S.1 1)), (0, .ref (ga G 63)), (1, .int v1), (2, .int v2), (6, .int v6), (7, .long v7), (9, .int v9)]) hx hb dX9_parts_197 hl (by decide) rfl (fun ls hl => ?_)
                    refine lv_iinc (v := (v9 + 1)) (lv' := [(9, .int (v9 + 1)), (5, .int (S.1 1)), (4, .int v9), (11, .long ((u43).toInt64 - (((S.1 1)).toInt64 - (v5).toInt64))), (10, .int (S.1 1)), (0, .ref (ga G 63)), (1, .int v1), (2, .int v2), (6, .int v6), (7, .long v7)]) hx hb dX9_parts_199 hl (k := 9) rfl rfl (by decide) rfl (fun ls hl => ?_)
                    refine lv_goto (tgt := 70) hx hb dX9_parts_202 (by decide) ?_
                    exact ih _ _ _ _ _ _ _ _ _ _ _ hf hP hS (lv_sub hl [5, 6, 7, 2, 1, 8, 9, 0] rfl) kk
                  · have hf := g_iff hf c52
                    refine lv_iload hx hb dX9_parts_183 (lv_at hl 5 rfl) ?_
                    refine lv_istore (lv' := [(6, .int v4), (11, .long ((u43).toInt64 - (((S.1 1)).toInt64 - (v5).toInt64))), (10, .int (S.1 1)), (0, .ref (ga G 63)), (1, .int v1), (2, .int v2), (4, .int v4), (5, .int v5), (7, .long v7), (9, .int v9)]) hx hb dX9_parts_185 hl (by decide) rfl (fun ls hl => ?_)
                    refine lv_lload hx hb dX9_parts_187 (lv_at hl 1 rfl) ?_
                    refine lv_lstore (lv' := [(7, .long ((u43).toInt64 - (((S.1 1)).toInt64 - (v5).toInt64))), (6, .int v4), (11, .long ((u43).toInt64 - (((S.1 1)).toInt64 - (v5).toInt64))), (10, .int (S.1 1)), (0, .ref (ga G 63)), (1, .int v1), (2, .int v2), (4, .int v4), (5, .int v5), (9, .int v9)]) hx hb dX9_parts_189 hl (by decide) rfl (fun ls hl => ?_)
                    refine lv_iload hx hb dX9_parts_191 (lv_at hl 9 rfl) ?_
                    refine lv_istore (lv' := [(4, .int v9), (7, .long ((u43).toInt64 - (((S.1 1)).toInt64 - (v5).toInt64))), (6, .int v4), (11, .long ((u43).toInt64 - (((S.1 1)).toInt64 - (v5).toInt64))), (10, .int (S.1 1)), (0, .ref (ga G 63)), (1, .int v1), (2, .int v2), (5, .int v5), (9, .int v9)]) hx hb dX9_parts_193 hl (by decide) rfl (fun ls hl => ?_)
                    refine lv_iload hx hb dX9_parts_195 (lv_at hl 4 rfl) ?_
                    refine lv_istore (lv' := [(5, .int (S.1 1)), (4, .int v9), (7, .long ((u43).toInt64 - (((S.1 1)).toInt64 - (v5).toInt64))), (6, .int v4), (11, .long ((u43).toInt64 - (((S.1 1)).toInt64 - (v5).toInt64))), (10, .int (S.1 1)), (0, .ref (ga G 63)), (1, .int v1), (2, .int v2), (9, .int v9)]) hx hb dX9_parts_197 hl (by decide) rfl (fun ls hl => ?_)
                    refine lv_iinc (v := (v9 + 1)) (lv' := [(9, .int (v9 + 1)), (5, .int (S.1 1)), (4, .int v9), (7, .long ((u43).toInt64 - (((S.1 1)).toInt64 - (v5).toInt64))), (6, .int v4), (11, .long ((u43).toInt64 - (((S.1 1)).toInt64 - (v5).toInt64))), (10, .int (S.1 1)), (0, .ref (ga G 63)), (1, .int v1), (2, .int v2)]) hx hb dX9_parts_199 hl (k := 9) rfl rfl (by decide) rfl (fun ls hl => ?_)
                    refine lv_goto (tgt := 70) hx hb dX9_parts_202 (by decide) ?_
                    exact ih _ _ _ _ _ _ _ _ _ _ _ hf hP hS (lv_sub hl [7, 8, 9, 2, 1, 4, 3, 0] rfl) kk
          · have hf := g_iff hf c42
            refine lv_goto (tgt := 199) hx hb dX9_parts_121 (by decide) ?_
            refine lv_iinc (v := (v9 + 1)) (lv' := [(9, .int (v9 + 1)), (10, .int (S.1 1)), (0, .ref (ga G 63)), (1, .int v1), (2, .int v2), (4, .int v4), (5, .int v5), (6, .int v6), (7, .long v7)]) hx hb dX9_parts_199 hl (k := 8) rfl rfl (by decide) rfl (fun ls hl => ?_)
            refine lv_goto (tgt := 70) hx hb dX9_parts_202 (by decide) ?_
            exact ih _ _ _ _ _ _ _ _ _ _ _ hf hP hS (lv_sub hl [2, 3, 4, 5, 6, 7, 8, 0] rfl) kk
def fX9_parts_L42 (S : GS) (v1 : Int32) (v2 : Int32) (v3 : Int32) : Option (Int32 × GS) :=
  if v3 = 0 then
    (fX9_parts_70 gFuel S v1 (0 : Int32) (S.1 1) (-1 : Int32) (0 : Int64) (1 : Int32)).bind fun u53 =>
    if v2 = 0 then
      some (u53.1, S)
    else
      some ((u53.2).toInt32, S)
  else
    (fX9_noFar S v3).bind fun u56 =>
    some (u56.1, u56.2)
set_option maxHeartbeats 4000000 in
set_option maxRecDepth 100000 in
theorem bX9_parts_L42 {p : Program} {l : Launch} {e : Env} {s : State} {m : MethodId} {args : Array Value} {below : List Frame} {meth : Method} {c : Code} {G : GP} (X : GX p s m meth c args cX9_parts 13 (some .int) wsX9_parts RX9) (E : gE WM G s) (S : GS) (v1 : Int32) (v2 : Int32) (v3 : Int32) (R : (Int32 × GS)) (H : Heap) (locs : List Loc) (ls : Array Slot) (hf : fX9_parts_L42 S v1 v2 v3 = some R) (hP : va_P (gD G) vwCl (WM G S ++ gF G) H) (hS : va_S (gA G) s.heap H locs) (hl : lv_has ls 13 [(0, .ref (ga G 63)), (1, .int v1), (2, .int v2), (3, .int v3)]) : W p l e (gR 4 88) s m args below meth c H locs 0 0 (MQ below (gQi WM G R.1 R.2) args s 0 0 (gA G)) (F0 m 42 ls []) := by
  obtain ⟨hx, hb, -, -, hown, hts, -⟩ := id X
  rw [fX9_parts_L42] at hf
  refine lv_iload_n hx hb dX9_parts_42 rfl (lv_at hl 3 rfl) ?_
  refine lv_if_eq (tgt := 52) hx hb dX9_parts_43 (by decide) (fun c4 => ?_) (fun c4 => ?_)
  · have hf := g_ift hf c4
    refine lv_iconst (v := 0) hx hb dX9_parts_52 (by decide) ?_
    refine lv_istore (lv' := [(4, .int (0 : Int32)), (0, .ref (ga G 63)), (1, .int v1), (2, .int v2), (3, .int v3)]) hx hb dX9_parts_53 hl (by decide) rfl (fun ls hl => ?_)
    refine lv_aload_n hx hb dX9_parts_55 rfl (lv_at hl 1 rfl) ?_
    refine ggM_1 X E hP inX9_parts_X9 lkX9_parts_0 dX9_parts_56 ?_
    refine lv_istore (lv' := [(5, .int (S.1 1)), (4, .int (0 : Int32)), (0, .ref (ga G 63)), (1, .int v1), (2, .int v2), (3, .int v3)]) hx hb dX9_parts_59 hl (by decide) rfl (fun ls hl => ?_)
    refine lv_iconst (v := -1) hx hb dX9_parts_61 (by decide) ?_
    refine lv_istore (lv' := [(6, .int (-1 : Int32)), (5, .int (S.1 1)), (4, .int (0 : Int32)), (0, .ref (ga G 63)), (1, .int v1), (2, .int v2), (3, .int v3)]) hx hb dX9_parts_62 hl (by decide) rfl (fun ls hl => ?_)
    refine lv_lconst (v := 0) hx hb dX9_parts_64 (by decide) ?_
    refine lv_lstore (lv' := [(7, .long (0 : Int64)), (6, .int (-1 : Int32)), (5, .int (S.1 1)), (4, .int (0 : Int32)), (0, .ref (ga G 63)), (1, .int v1), (2, .int v2), (3, .int v3)]) hx hb dX9_parts_65 hl (by decide) rfl (fun ls hl => ?_)
    refine lv_iconst (v := 1) hx hb dX9_parts_67 (by decide) ?_
    refine lv_istore (lv' := [(9, .int (1 : Int32)), (7, .long (0 : Int64)), (6, .int (-1 : Int32)), (5, .int (S.1 1)), (4, .int (0 : Int32)), (0, .ref (ga G 63)), (1, .int v1), (2, .int v2), (3, .int v3)]) hx hb dX9_parts_68 hl (by decide) rfl (fun ls hl => ?_)
    obtain ⟨u53, h54, hf⟩ := g_bind hf
    refine bX9_parts_70 X E gFuel _ _ _ _ _ _ _ u53 _ _ _ h54 hP hS (lv_sub hl [5, 6, 7, 4, 3, 2, 1, 0] rfl) (fun H locs ls hP hS hl => ?_)
    have hl : lv_has ls 13 [(2, .int v2), (6, .int u53.1), (7, .long u53.2)] := hl
    refine lv_iload_n hx hb dX9_parts_205 rfl (lv_at hl 0 rfl) ?_
    refine lv_if_ne (tgt := 214) hx hb dX9_parts_206 (by decide) (fun c55 => ?_) (fun c55 => ?_)
    · have hf := g_iff hf c55
      refine lv_lload hx hb dX9_parts_214 (lv_at hl 2 rfl) ?_
      refine lv_l2i hx hb dX9_parts_216 rfl ?_
      obtain rfl := g_some hf
      exact g_ri X E hP hS dX9_parts_217
    · have hf := g_ift hf c55
      refine lv_iload hx hb dX9_parts_209 (lv_at hl 1 rfl) ?_
      refine lv_goto (tgt := 217) hx hb dX9_parts_211 (by decide) ?_
      obtain rfl := g_some hf
      exact g_ri X E hP hS dX9_parts_217
  · have hf := g_iff hf c4
    refine lv_aload_n hx hb dX9_parts_46 rfl (lv_at hl 0 rfl) ?_
    refine lv_iload_n hx hb dX9_parts_47 rfl (lv_at hl 3 rfl) ?_
    obtain ⟨u56, h57, hf⟩ := g_bind hf
    refine g_vi (rest := []) X E hP hS (tcX9_noFar l G _ _ h57) (g_cwV X gX9_parts_X9_noFar rfl hdX9_noFar ⟨Nat.le_of_ble_eq_true rfl, Nat.le_of_ble_eq_true rfl⟩) (rcM_model E hP) rfl hl.1 rfl (Nat.le_of_ble_eq_true rfl) dX9_parts_48 ⟨Nat.le_refl _, Nat.le_refl _⟩ (fun H locs hP hS => ?_)
    obtain rfl := g_some hf
    exact g_ri X E hP hS dX9_parts_51
def fX9_parts_L39 (S : GS) (v1 : Int32) (v2 : Int32) : Option (Int32 × GS) :=
  fX9_parts_L42 S v1 v2 (-5 : Int32)
set_option maxHeartbeats 4000000 in
set_option maxRecDepth 100000 in
theorem bX9_parts_L39 {p : Program} {l : Launch} {e : Env} {s : State} {m : MethodId} {args : Array Value} {below : List Frame} {meth : Method} {c : Code} {G : GP} (X : GX p s m meth c args cX9_parts 13 (some .int) wsX9_parts RX9) (E : gE WM G s) (S : GS) (v1 : Int32) (v2 : Int32) (R : (Int32 × GS)) (H : Heap) (locs : List Loc) (ls : Array Slot) (hf : fX9_parts_L39 S v1 v2 = some R) (hP : va_P (gD G) vwCl (WM G S ++ gF G) H) (hS : va_S (gA G) s.heap H locs) (hl : lv_has ls 13 [(0, .ref (ga G 63)), (1, .int v1), (2, .int v2)]) : W p l e (gR 4 88) s m args below meth c H locs 0 0 (MQ below (gQi WM G R.1 R.2) args s 0 0 (gA G)) (F0 m 39 ls []) := by
  obtain ⟨hx, hb, -, -, hown, hts, -⟩ := id X
  rw [fX9_parts_L39] at hf
  refine lv_bipush (v := -5) hx hb dX9_parts_39 (by decide) ?_
  refine lv_istore_n (lv' := [(3, .int (-5 : Int32)), (0, .ref (ga G 63)), (1, .int v1), (2, .int v2)]) hx hb dX9_parts_41 rfl hl (by decide) rfl (fun ls hl => ?_)
  exact bX9_parts_L42 X E _ _ _ _ _ _ _ _ hf hP hS (lv_sub hl [1, 2, 3, 0] rfl)
def fX9_parts (S : GS) (a1 : Int32) (a2 : Int32) : Option (Int32 × GS) :=
  (fX9_wanted S a1).bind fun u1 =>
  if u1 = 0 then
    if a1 < 0 ∨ 8 ≤ (a1).toNatClampNeg then none else
    if (S.2.2.1 17 (a1).toNatClampNeg) < (S.1 0) then
      fX9_parts_L39 S a1 a2
    else
      if a2 < 0 then
        fX9_parts_L39 S a1 a2
      else
        if (1 : Int32) < a2 then
          fX9_parts_L39 S a1 a2
        else
          if (S.1 0) = 0 then
            fX9_parts_L39 S a1 a2
          else
            fX9_parts_L42 S a1 a2 u1
  else
    fX9_parts_L42 S a1 a2 u1
set_option maxHeartbeats 4000000 in
set_option maxRecDepth 100000 in
theorem tcX9_parts (l : Launch) (G : GP) (S : GS) (a1 : Int32) (a2 : Int32) {R : (Int32 × GS)} (hf : fX9_parts S a1 a2 = some R) : CI l yX9_parts wsX9_parts 4 88 [.ref (ga G 63), .int a1, .int a2] WM G S R.1 R.2 := by
  refine g_met RX9 (cc := cX9_parts) (nL := 13) (ret := (some .int)) (by decide) rfl rfl (Nat.le_of_ble_eq_true rfl) ?_
  intro p e s m below meth c ls X E hP hS hl
  have hl : lv_has ls 13 [(0, .ref (ga G 63)), (1, .int a1), (2, .int a2)] := hl
  obtain ⟨hx, hb, -, -, hown, hts, -⟩ := id X
  rw [fX9_parts] at hf
  refine lv_aload_n hx hb dX9_parts_0 rfl (lv_at hl 0 rfl) ?_
  refine lv_iload_n hx hb dX9_parts_1 rfl (lv_at hl 1 rfl) ?_
  obtain ⟨u1, h2, hf⟩ := g_bind hf
  refine g_vi (rest := []) X E hP hS (tcX9_wanted l G _ _ h2) (g_cwV X gX9_parts_X9_wanted rfl hdX9_wanted ⟨Nat.le_of_ble_eq_true rfl, Nat.le_of_ble_eq_true rfl⟩) (rcM_model E hP) rfl hl.1 rfl (Nat.le_of_ble_eq_true rfl) dX9_parts_2 ⟨Nat.le_refl _, Nat.le_refl _⟩ (fun H locs hP hS => ?_)
  refine lv_istore_n (lv' := [(3, .int u1), (0, .ref (ga G 63)), (1, .int a1), (2, .int a2)]) hx hb dX9_parts_5 rfl hl (by decide) rfl (fun ls hl => ?_)
  refine lv_iload_n hx hb dX9_parts_6 rfl (lv_at hl 0 rfl) ?_
  refine lv_if_ne (tgt := 42) hx hb dX9_parts_7 (by decide) (fun c3 => ?_) (fun c3 => ?_)
  · have hf := g_iff hf c3
    exact bX9_parts_L42 X E _ _ _ _ _ _ _ _ hf hP hS (lv_sub hl [1, 2, 3, 0] rfl)
  · have hf := g_ift hf c3
    refine lv_aload_n hx hb dX9_parts_10 rfl (lv_at hl 1 rfl) ?_
    refine ggM_17 X E hP inX9_parts_X9 lkX9_parts_2 dX9_parts_11 ?_
    refine lv_iload_n hx hb dX9_parts_14 rfl (lv_at hl 2 rfl) ?_
    obtain ⟨b58, hf⟩ := g_if hf
    refine giM_17 X E hP b58 dX9_parts_15 ?_
    refine lv_aload_n hx hb dX9_parts_16 rfl (lv_at hl 1 rfl) ?_
    refine ggM_0 X E hP inX9_parts_X9 lkX9_parts_1 dX9_parts_17 ?_
    refine lv_icmp_lt (tgt := 39) hx hb dX9_parts_20 (by decide) (fun c59 => ?_) (fun c59 => ?_)
    · have hf := g_ift hf c59
      exact bX9_parts_L39 X E _ _ _ _ _ _ _ hf hP hS (lv_sub hl [1, 2, 3] rfl)
    · have hf := g_iff hf c59
      refine lv_iload_n hx hb dX9_parts_23 rfl (lv_at hl 3 rfl) ?_
      refine lv_if_lt (tgt := 39) hx hb dX9_parts_24 (by decide) (fun c60 => ?_) (fun c60 => ?_)
      · have hf := g_ift hf c60
        exact bX9_parts_L39 X E _ _ _ _ _ _ _ hf hP hS (lv_sub hl [1, 2, 3] rfl)
      · have hf := g_iff hf c60
        refine lv_iload_n hx hb dX9_parts_27 rfl (lv_at hl 3 rfl) ?_
        refine lv_iconst (v := 1) hx hb dX9_parts_28 (by decide) ?_
        refine lv_icmp_gt (tgt := 39) hx hb dX9_parts_29 (by decide) (fun c61 => ?_) (fun c61 => ?_)
        · have hf := g_ift hf c61
          exact bX9_parts_L39 X E _ _ _ _ _ _ _ hf hP hS (lv_sub hl [1, 2, 3] rfl)
        · have hf := g_iff hf c61
          refine lv_aload_n hx hb dX9_parts_32 rfl (lv_at hl 1 rfl) ?_
          refine ggM_0 X E hP inX9_parts_X9 lkX9_parts_1 dX9_parts_33 ?_
          refine lv_if_ne (tgt := 42) hx hb dX9_parts_36 (by decide) (fun c62 => ?_) (fun c62 => ?_)
          · have hf := g_iff hf c62
            exact bX9_parts_L42 X E _ _ _ _ _ _ _ _ hf hP hS (lv_sub hl [1, 2, 3, 0] rfl)
          · have hf := g_ift hf c62
            exact bX9_parts_L39 X E _ _ _ _ _ _ _ hf hP hS (lv_sub hl [1, 2, 3] rfl)
theorem lkX9_yards_0 : Cond.fieldLink RX9 38 RX9 "back" "[I" ∈ wsX9_yards := by decide +kernel
theorem lkX9_yards_1 : Cond.fieldLink RX9 41 RX9 "on" "[I" ∈ wsX9_yards := by decide +kernel
theorem inX9_yards_X9 : ∀ w ∈ wsX90, w ∈ wsX9_yards := by decide +kernel
def fX9_yards_5 : Nat → GS → Int32 → Int32 → Int32 → Option Int32
  | 0, _, _, _, _ => none
  | fu + 1, S, v2, v3, v4 =>
    if v2 ≤ v4 then
      some v3
    else
      if v4 < 0 ∨ 16 ≤ (v4).toNatClampNeg then none else
      if v4 < 0 ∨ 16 ≤ (v4).toNatClampNeg then none else
      fX9_yards_5 fu S v2 (v3 + ((S.2.2.1 11 (v4).toNatClampNeg) + (S.2.2.1 12 (v4).toNatClampNeg))) (v4 + 1)
set_option maxHeartbeats 4000000 in
set_option maxRecDepth 100000 in
theorem bX9_yards_5 {p : Program} {l : Launch} {e : Env} {s : State} {m : MethodId} {args : Array Value} {below : List Frame} {meth : Method} {c : Code} {Q : State → Prop} {G : GP} (X : GX p s m meth c args cX9_yards 5 (some .int) wsX9_yards RX9) (E : gE WM G s)  : ∀ (fu : Nat) (S : GS) (v2 : Int32) (v3 : Int32) (v4 : Int32) (R : Int32) (H : Heap) (locs : List Loc) (ls : Array Slot) (_ : fX9_yards_5 fu S v2 v3 v4 = some R) (_ : va_P (gD G) vwCl (WM G S ++ gF G) H) (_ : va_S (gA G) s.heap H locs) (_ : lv_has ls 5 [(0, .ref (ga G 63)), (2, .int v2), (3, .int v3), (4, .int v4)]) (_ : ∀ (H : Heap) (locs : List Loc) (ls : Array Slot), va_P (gD G) vwCl (WM G S ++ gF G) H → va_S (gA G) s.heap H locs → lv_has ls 5 [(3, .int R)] → W p l e (gR 0 0) s m args below meth c H locs 0 0 Q (F0 m 35 ls [])), W p l e (gR 0 0) s m args below meth c H locs 0 0 Q (F0 m 5 ls []) := by
  obtain ⟨hx, hb, -, -, hown, hts, -⟩ := id X
  intro fu
  induction fu with
  | zero =>
    intro S v2 v3 v4 R H locs ls hf
    cases (show (none : Option Int32) = some R from hf)
  | succ fu ih =>
    intro S v2 v3 v4 R H locs ls hf hP hS hl kk
    rw [fX9_yards_5] at hf
    refine lv_iload hx hb dX9_yards_5 (lv_at hl 3 rfl) ?_
    refine lv_iload_n hx hb dX9_yards_7 rfl (lv_at hl 1 rfl) ?_
    refine lv_icmp_ge (tgt := 35) hx hb dX9_yards_8 (by decide) (fun c1 => ?_) (fun c1 => ?_)
    · have hf := g_ift hf c1
      obtain rfl := g_some hf
      exact kk _ _ _ hP hS (lv_sub hl [2] rfl)
    · have hf := g_iff hf c1
      refine lv_iload_n hx hb dX9_yards_11 rfl (lv_at hl 2 rfl) ?_
      refine lv_aload_n hx hb dX9_yards_12 rfl (lv_at hl 0 rfl) ?_
      refine ggM_11 X E hP inX9_yards_X9 lkX9_yards_0 dX9_yards_13 ?_
      refine lv_iload hx hb dX9_yards_16 (lv_at hl 3 rfl) ?_
      obtain ⟨b2, hf⟩ := g_if hf
      refine giM_11 X E hP b2 dX9_yards_18 ?_
      refine lv_aload_n hx hb dX9_yards_19 rfl (lv_at hl 0 rfl) ?_
      refine ggM_12 X E hP inX9_yards_X9 lkX9_yards_1 dX9_yards_20 ?_
      refine lv_iload hx hb dX9_yards_23 (lv_at hl 3 rfl) ?_
      obtain ⟨b3, hf⟩ := g_if hf
      refine giM_12 X E hP b3 dX9_yards_25 ?_
      refine lv_iadd hx hb dX9_yards_26 ?_
      refine lv_iadd hx hb dX9_yards_27 ?_
      refine lv_istore_n (lv' := [(3, .int (v3 + ((S.2.2.1 11 (v4).toNatClampNeg) + (S.2.2.1 12 (v4).toNatClampNeg)))), (0, .ref (ga G 63)), (2, .int v2), (4, .int v4)]) hx hb dX9_yards_28 rfl hl (by decide) rfl (fun ls hl => ?_)
      refine lv_iinc (v := (v4 + 1)) (lv' := [(4, .int (v4 + 1)), (3, .int (v3 + ((S.2.2.1 11 (v4).toNatClampNeg) + (S.2.2.1 12 (v4).toNatClampNeg)))), (0, .ref (ga G 63)), (2, .int v2)]) hx hb dX9_yards_29 hl (k := 3) rfl rfl (by decide) rfl (fun ls hl => ?_)
      refine lv_goto (tgt := 5) hx hb dX9_yards_32 (by decide) ?_
      exact ih _ _ _ _ _ _ _ _ hf hP hS (lv_sub hl [2, 3, 1, 0] rfl) kk
def fX9_yards (S : GS) (a1 : Int32) (a2 : Int32) : Option Int32 :=
  (fX9_yards_5 gFuel S a2 (0 : Int32) a1).bind fun u4 =>
  some u4
set_option maxHeartbeats 4000000 in
set_option maxRecDepth 100000 in
theorem tcX9_yards (l : Launch) (G : GP) (S : GS) (a1 : Int32) (a2 : Int32) {R : Int32} (hf : fX9_yards S a1 a2 = some R) : CI l yX9_yards wsX9_yards 0 0 [.ref (ga G 63), .int a1, .int a2] WM G S R S := by
  refine g_met RX9 (cc := cX9_yards) (nL := 5) (ret := (some .int)) (by decide) rfl rfl (Nat.le_of_ble_eq_true rfl) ?_
  intro p e s m below meth c ls X E hP hS hl
  have hl : lv_has ls 5 [(0, .ref (ga G 63)), (1, .int a1), (2, .int a2)] := hl
  obtain ⟨hx, hb, -, -, hown, hts, -⟩ := id X
  rw [fX9_yards] at hf
  refine lv_iconst (v := 0) hx hb dX9_yards_0 (by decide) ?_
  refine lv_istore_n (lv' := [(3, .int (0 : Int32)), (0, .ref (ga G 63)), (1, .int a1), (2, .int a2)]) hx hb dX9_yards_1 rfl hl (by decide) rfl (fun ls hl => ?_)
  refine lv_iload_n hx hb dX9_yards_2 rfl (lv_at hl 2 rfl) ?_
  refine lv_istore (lv' := [(4, .int a1), (3, .int (0 : Int32)), (0, .ref (ga G 63)), (1, .int a1), (2, .int a2)]) hx hb dX9_yards_3 hl (by decide) rfl (fun ls hl => ?_)
  obtain ⟨u4, h5, hf⟩ := g_bind hf
  refine bX9_yards_5 X E gFuel _ _ _ _ u4 _ _ _ h5 hP hS (lv_sub hl [2, 4, 1, 0] rfl) (fun H locs ls hP hS hl => ?_)
  have hl : lv_has ls 5 [(3, .int u4)] := hl
  refine lv_iload_n hx hb dX9_yards_35 rfl (lv_at hl 0 rfl) ?_
  obtain rfl := g_some hf
  exact g_ri X E hP hS dX9_yards_36
theorem lkX9_weight_0 : Cond.fieldLink RX9 26 RX9 "kind" "[I" ∈ wsX9_weight := by decide +kernel
theorem inX9_weight_X9 : ∀ w ∈ wsX90, w ∈ wsX9_weight := by decide +kernel
def fX9_weight (S : GS) (a1 : Int32) : Option Int32 :=
  if a1 < 0 ∨ 16 ≤ (a1).toNatClampNeg then none else
  if (S.2.2.1 7 (a1).toNatClampNeg) = 0 then
    some (1 : Int32)
  else
    if (S.2.2.1 7 (a1).toNatClampNeg) = (1 : Int32) then
      some (2 : Int32)
    else
      if (S.2.2.1 7 (a1).toNatClampNeg) = (2 : Int32) then
        some (2 : Int32)
      else
        if (S.2.2.1 7 (a1).toNatClampNeg) = (4 : Int32) then
          some (2 : Int32)
        else
          some (3 : Int32)
set_option maxHeartbeats 4000000 in
set_option maxRecDepth 100000 in
theorem tcX9_weight (l : Launch) (G : GP) (S : GS) (a1 : Int32) {R : Int32} (hf : fX9_weight S a1 = some R) : CI l yX9_weight wsX9_weight 0 0 [.ref (ga G 63), .int a1] WM G S R S := by
  refine g_met RX9 (cc := cX9_weight) (nL := 3) (ret := (some .int)) (by decide) rfl rfl (Nat.le_of_ble_eq_true rfl) ?_
  intro p e s m below meth c ls X E hP hS hl
  have hl : lv_has ls 3 [(0, .ref (ga G 63)), (1, .int a1)] := hl
  obtain ⟨hx, hb, -, -, hown, hts, -⟩ := id X
  rw [fX9_weight] at hf
  refine lv_aload_n hx hb dX9_weight_0 rfl (lv_at hl 0 rfl) ?_
  refine ggM_7 X E hP inX9_weight_X9 lkX9_weight_0 dX9_weight_1 ?_
  refine lv_iload_n hx hb dX9_weight_4 rfl (lv_at hl 1 rfl) ?_
  obtain ⟨b1, hf⟩ := g_if hf
  refine giM_7 X E hP b1 dX9_weight_5 ?_
  refine lv_istore_n (lv' := [(2, .int (S.2.2.1 7 (a1).toNatClampNeg)), (0, .ref (ga G 63)), (1, .int a1)]) hx hb dX9_weight_6 rfl hl (by decide) rfl (fun ls hl => ?_)
  refine lv_iload_n hx hb dX9_weight_7 rfl (lv_at hl 0 rfl) ?_
  refine lv_if_ne (tgt := 15) hx hb dX9_weight_8 (by decide) (fun c2 => ?_) (fun c2 => ?_)
  · have hf := g_iff hf c2
    refine lv_iload_n hx hb dX9_weight_15 rfl (lv_at hl 0 rfl) ?_
    refine lv_iconst (v := 1) hx hb dX9_weight_16 (by decide) ?_
    refine lv_icmp_eq (tgt := 30) hx hb dX9_weight_17 (by decide) (fun c3 => ?_) (fun c3 => ?_)
    · have hf := g_ift hf c3
      refine lv_iconst (v := 2) hx hb dX9_weight_30 (by decide) ?_
      refine lv_goto (tgt := 35) hx hb dX9_weight_31 (by decide) ?_
      obtain rfl := g_some hf
      exact g_ri X E hP hS dX9_weight_35
    · have hf := g_iff hf c3
      refine lv_iload_n hx hb dX9_weight_20 rfl (lv_at hl 0 rfl) ?_
      refine lv_iconst (v := 2) hx hb dX9_weight_21 (by decide) ?_
      refine lv_icmp_eq (tgt := 30) hx hb dX9_weight_22 (by decide) (fun c4 => ?_) (fun c4 => ?_)
      · have hf := g_ift hf c4
        refine lv_iconst (v := 2) hx hb dX9_weight_30 (by decide) ?_
        refine lv_goto (tgt := 35) hx hb dX9_weight_31 (by decide) ?_
        obtain rfl := g_some hf
        exact g_ri X E hP hS dX9_weight_35
      · have hf := g_iff hf c4
        refine lv_iload_n hx hb dX9_weight_25 rfl (lv_at hl 0 rfl) ?_
        refine lv_iconst (v := 4) hx hb dX9_weight_26 (by decide) ?_
        refine lv_icmp_ne (tgt := 34) hx hb dX9_weight_27 (by decide) (fun c5 => ?_) (fun c5 => ?_)
        · have hf := g_iff hf c5
          refine lv_iconst (v := 3) hx hb dX9_weight_34 (by decide) ?_
          obtain rfl := g_some hf
          exact g_ri X E hP hS dX9_weight_35
        · have hf := g_ift hf c5
          refine lv_iconst (v := 2) hx hb dX9_weight_30 (by decide) ?_
          refine lv_goto (tgt := 35) hx hb dX9_weight_31 (by decide) ?_
          obtain rfl := g_some hf
          exact g_ri X E hP hS dX9_weight_35
  · have hf := g_ift hf c2
    refine lv_iconst (v := 1) hx hb dX9_weight_11 (by decide) ?_
    refine lv_goto (tgt := 35) hx hb dX9_weight_12 (by decide) ?_
    obtain rfl := g_some hf
    exact g_ri X E hP hS dX9_weight_35
theorem lkX9_noTen_0 : Cond.fieldLink RX9 22 RX9 "refused" "[I" ∈ wsX9_noTen := by decide +kernel
theorem inX9_noTen_X9 : ∀ w ∈ wsX90, w ∈ wsX9_noTen := by decide +kernel
def fX9_noTen (S : GS) (a1 : Int32) : Option (Int32 × GS) :=
  if (-a1) < 0 ∨ 8 ≤ (-a1).toNatClampNeg then none else
  if (-a1) < 0 ∨ 8 ≤ (-a1).toNatClampNeg then none else
  some ((a1 - (10 : Int32)), (gU3 S 6 (-a1).toNatClampNeg ((S.2.2.1 6 (-a1).toNatClampNeg) + (1 : Int32))))
set_option maxHeartbeats 4000000 in
set_option maxRecDepth 100000 in
theorem tcX9_noTen (l : Launch) (G : GP) (S : GS) (a1 : Int32) {R : (Int32 × GS)} (hf : fX9_noTen S a1 = some R) : CI l yX9_noTen wsX9_noTen 0 0 [.ref (ga G 63), .int a1] WM G S R.1 R.2 := by
  refine g_met RX9 (cc := cX9_noTen) (nL := 2) (ret := (some .int)) (by decide) rfl rfl (Nat.le_of_ble_eq_true rfl) ?_
  intro p e s m below meth c ls X E hP hS hl
  have hl : lv_has ls 2 [(0, .ref (ga G 63)), (1, .int a1)] := hl
  obtain ⟨hx, hb, -, -, hown, hts, -⟩ := id X
  rw [fX9_noTen] at hf
  refine lv_aload_n hx hb dX9_noTen_0 rfl (lv_at hl 0 rfl) ?_
  refine ggM_6 X E hP inX9_noTen_X9 lkX9_noTen_0 dX9_noTen_1 ?_
  refine lv_iload_n hx hb dX9_noTen_4 rfl (lv_at hl 1 rfl) ?_
  refine lv_ineg hx hb dX9_noTen_5 ?_
  refine lv_dup2_11 hx hb dX9_noTen_6 rfl rfl ?_
  obtain ⟨b1, hf⟩ := g_if hf
  refine giM_6 X E hP b1 dX9_noTen_7 ?_
  refine lv_iconst (v := 1) hx hb dX9_noTen_8 (by decide) ?_
  refine lv_iadd hx hb dX9_noTen_9 ?_
  obtain ⟨b2, hf⟩ := g_if hf
  refine gsM_6 X E hP hS b2 dX9_noTen_10 (fun H locs hP hS => ?_)
  refine lv_iload_n hx hb dX9_noTen_11 rfl (lv_at hl 1 rfl) ?_
  refine lv_bipush (v := 10) hx hb dX9_noTen_12 (by decide) ?_
  refine lv_isub hx hb dX9_noTen_14 ?_
  obtain rfl := g_some hf
  exact g_ri X E hP hS dX9_noTen_15
theorem lkX9_again_0 : Cond.fieldLink RX9 91 RX9 "many" "I" ∈ wsX9_again := by decide +kernel
theorem inX9_again_X9 : ∀ w ∈ wsX90, w ∈ wsX9_again := by decide +kernel
def fX9_again_34 : Nat → GS → Int32 → Int32 → Int32 → Int32 → Int32 → Int32 → Option (Int32 × Int32)
  | 0, _, _, _, _, _, _, _ => none
  | fu + 1, S, v1, v2, v3, v4, v5, v6 =>
    if (S.1 0) ≤ v6 then
      some (v2, v3)
    else
      (fX9_yards S v4 (v6 + (1 : Int32))).bind fun u4 =>
      if v1 < u4 then
        some (v2, v3)
      else
        (fX9_weight S v6).bind fun u7 =>
        if v2 = (-1 : Int32) then
          fX9_again_34 fu S v1 (((100 : Int32) * v4) + v6) (v5 + u7) v4 (v5 + u7) (v6 + 1)
        else
          if v3 < (v5 + u7) then
            fX9_again_34 fu S v1 (((100 : Int32) * v4) + v6) (v5 + u7) v4 (v5 + u7) (v6 + 1)
          else
            fX9_again_34 fu S v1 v2 v3 v4 (v5 + u7) (v6 + 1)
set_option maxHeartbeats 4000000 in
set_option maxRecDepth 100000 in
theorem bX9_again_34 {p : Program} {l : Launch} {e : Env} {s : State} {m : MethodId} {args : Array Value} {below : List Frame} {meth : Method} {c : Code} {Q : State → Prop} {G : GP} (X : GX p s m meth c args cX9_again 7 (some .int) wsX9_again RX9) (E : gE WM G s)  : ∀ (fu : Nat) (S : GS) (v1 : Int32) (v2 : Int32) (v3 : Int32) (v4 : Int32) (v5 : Int32) (v6 : Int32) (R : (Int32 × Int32)) (H : Heap) (locs : List Loc) (ls : Array Slot) (_ : fX9_again_34 fu S v1 v2 v3 v4 v5 v6 = some R) (_ : va_P (gD G) vwCl (WM G S ++ gF G) H) (_ : va_S (gA G) s.heap H locs) (_ : lv_has ls 7 [(0, .ref (ga G 63)), (1, .int v1), (2, .int v2), (3, .int v3), (4, .int v4), (5, .int v5), (6, .int v6)]) (_ : ∀ (H : Heap) (locs : List Loc) (ls : Array Slot), va_P (gD G) vwCl (WM G S ++ gF G) H → va_S (gA G) s.heap H locs → lv_has ls 7 [(0, .ref (ga G 63)), (1, .int v1), (2, .int R.1), (3, .int R.2), (4, .int v4)] → W p l e (gR 1 24) s m args below meth c H locs 0 0 Q (F0 m 100 ls [])), W p l e (gR 1 24) s m args below meth c H locs 0 0 Q (F0 m 34 ls []) := by
  obtain ⟨hx, hb, -, -, hown, hts, -⟩ := id X
  intro fu
  induction fu with
  | zero =>
    intro S v1 v2 v3 v4 v5 v6 R H locs ls hf
    cases (show (none : Option (Int32 × Int32)) = some R from hf)
  | succ fu ih =>
    intro S v1 v2 v3 v4 v5 v6 R H locs ls hf hP hS hl kk
    rw [fX9_again_34] at hf
    refine lv_iload hx hb dX9_again_34 (lv_at hl 6 rfl) ?_
    refine lv_aload_n hx hb dX9_again_36 rfl (lv_at hl 0 rfl) ?_
    refine ggM_0 X E hP inX9_again_X9 lkX9_again_0 dX9_again_37 ?_
    refine lv_icmp_ge (tgt := 100) hx hb dX9_again_40 (by decide) (fun c3 => ?_) (fun c3 => ?_)
    · have hf := g_ift hf c3
      obtain rfl := g_some hf
      exact kk _ _ _ hP hS (lv_sub hl [0, 1, 2, 3, 4] rfl)
    · have hf := g_iff hf c3
      refine lv_aload_n hx hb dX9_again_43 rfl (lv_at hl 0 rfl) ?_
      refine lv_iload hx hb dX9_again_44 (lv_at hl 4 rfl) ?_
      refine lv_iload hx hb dX9_again_46 (lv_at hl 6 rfl) ?_
      refine lv_iconst (v := 1) hx hb dX9_again_48 (by decide) ?_
      refine lv_iadd hx hb dX9_again_49 ?_
      obtain ⟨u4, h5, hf⟩ := g_bind hf
      refine g_vi (rest := []) X E hP hS (tcX9_yards l G _ _ _ h5) (g_cwV X gX9_again_X9_yards rfl hdX9_yards ⟨Nat.le_of_ble_eq_true rfl, Nat.le_of_ble_eq_true rfl⟩) (rcM_model E hP) rfl hl.1 rfl (Nat.le_of_ble_eq_true rfl) dX9_again_50 ⟨Nat.le_refl _, Nat.le_refl _⟩ (fun H locs hP hS => ?_)
      refine lv_iload_n hx hb dX9_again_53 rfl (lv_at hl 1 rfl) ?_
      refine lv_icmp_gt (tgt := 100) hx hb dX9_again_54 (by decide) (fun c6 => ?_) (fun c6 => ?_)
      · have hf := g_ift hf c6
        obtain rfl := g_some hf
        exact kk _ _ _ hP hS (lv_sub hl [0, 1, 2, 3, 4] rfl)
      · have hf := g_iff hf c6
        refine lv_iload hx hb dX9_again_57 (lv_at hl 5 rfl) ?_
        refine lv_aload_n hx hb dX9_again_59 rfl (lv_at hl 0 rfl) ?_
        refine lv_iload hx hb dX9_again_60 (lv_at hl 6 rfl) ?_
        obtain ⟨u7, h8, hf⟩ := g_bind hf
        refine g_vi (rest := [.int v5]) X E hP hS (tcX9_weight l G _ _ h8) (g_cwV X gX9_again_X9_weight rfl hdX9_weight ⟨Nat.le_of_ble_eq_true rfl, Nat.le_of_ble_eq_true rfl⟩) (rcM_model E hP) rfl hl.1 rfl (Nat.le_of_ble_eq_true rfl) dX9_again_62 ⟨Nat.le_refl _, Nat.le_refl _⟩ (fun H locs hP hS => ?_)
        refine lv_iadd hx hb dX9_again_65 ?_
        refine lv_istore (lv' := [(5, .int (v5 + u7)), (0, .ref (ga G 63)), (1, .int v1), (2, .int v2), (3, .int v3), (4, .int v4), (6, .int v6)]) hx hb dX9_again_66 hl (by decide) rfl (fun ls hl => ?_)
        refine lv_iload_n hx hb dX9_again_68 rfl (lv_at hl 3 rfl) ?_
        refine lv_iconst (v := -1) hx hb dX9_again_69 (by decide) ?_
        refine lv_icmp_eq (tgt := 82) hx hb dX9_again_70 (by decide) (fun c9 => ?_) (fun c9 => ?_)
        · have hf := g_ift hf c9
          refine lv_bipush (v := 100) hx hb dX9_again_82 (by decide) ?_
          refine lv_iload hx hb dX9_again_84 (lv_at hl 5 rfl) ?_
          refine lv_imul hx hb dX9_again_86 ?_
          refine lv_iload hx hb dX9_again_87 (lv_at hl 6 rfl) ?_
          refine lv_iadd hx hb dX9_again_89 ?_
          refine lv_istore_n (lv' := [(2, .int (((100 : Int32) * v4) + v6)), (5, .int (v5 + u7)), (0, .ref (ga G 63)), (1, .int v1), (3, .int v3), (4, .int v4), (6, .int v6)]) hx hb dX9_again_90 rfl hl (by decide) rfl (fun ls hl => ?_)
          refine lv_iload hx hb dX9_again_91 (lv_at hl 1 rfl) ?_
          refine lv_istore_n (lv' := [(3, .int (v5 + u7)), (2, .int (((100 : Int32) * v4) + v6)), (5, .int (v5 + u7)), (0, .ref (ga G 63)), (1, .int v1), (4, .int v4), (6, .int v6)]) hx hb dX9_again_93 rfl hl (by decide) rfl (fun ls hl => ?_)
          refine lv_iinc (v := (v6 + 1)) (lv' := [(6, .int (v6 + 1)), (3, .int (v5 + u7)), (2, .int (((100 : Int32) * v4) + v6)), (5, .int (v5 + u7)), (0, .ref (ga G 63)), (1, .int v1), (4, .int v4)]) hx hb dX9_again_94 hl (k := 6) rfl rfl (by decide) rfl (fun ls hl => ?_)
          refine lv_goto (tgt := 34) hx hb dX9_again_97 (by decide) ?_
          exact ih _ _ _ _ _ _ _ _ _ _ _ hf hP hS (lv_sub hl [4, 5, 2, 1, 6, 3, 0] rfl) kk
        · have hf := g_iff hf c9
          refine lv_iload hx hb dX9_again_73 (lv_at hl 0 rfl) ?_
          refine lv_iload_n hx hb dX9_again_75 rfl (lv_at hl 4 rfl) ?_
          refine lv_icmp_gt (tgt := 82) hx hb dX9_again_76 (by decide) (fun c10 => ?_) (fun c10 => ?_)
          · have hf := g_ift hf c10
            refine lv_bipush (v := 100) hx hb dX9_again_82 (by decide) ?_
            refine lv_iload hx hb dX9_again_84 (lv_at hl 5 rfl) ?_
            refine lv_imul hx hb dX9_again_86 ?_
            refine lv_iload hx hb dX9_again_87 (lv_at hl 6 rfl) ?_
            refine lv_iadd hx hb dX9_again_89 ?_
            refine lv_istore_n (lv' := [(2, .int (((100 : Int32) * v4) + v6)), (5, .int (v5 + u7)), (0, .ref (ga G 63)), (1, .int v1), (3, .int v3), (4, .int v4), (6, .int v6)]) hx hb dX9_again_90 rfl hl (by decide) rfl (fun ls hl => ?_)
            refine lv_iload hx hb dX9_again_91 (lv_at hl 1 rfl) ?_
            refine lv_istore_n (lv' := [(3, .int (v5 + u7)), (2, .int (((100 : Int32) * v4) + v6)), (5, .int (v5 + u7)), (0, .ref (ga G 63)), (1, .int v1), (4, .int v4), (6, .int v6)]) hx hb dX9_again_93 rfl hl (by decide) rfl (fun ls hl => ?_)
            refine lv_iinc (v := (v6 + 1)) (lv' := [(6, .int (v6 + 1)), (3, .int (v5 + u7)), (2, .int (((100 : Int32) * v4) + v6)), (5, .int (v5 + u7)), (0, .ref (ga G 63)), (1, .int v1), (4, .int v4)]) hx hb dX9_again_94 hl (k := 6) rfl rfl (by decide) rfl (fun ls hl => ?_)
            refine lv_goto (tgt := 34) hx hb dX9_again_97 (by decide) ?_
            exact ih _ _ _ _ _ _ _ _ _ _ _ hf hP hS (lv_sub hl [4, 5, 2, 1, 6, 3, 0] rfl) kk
          · have hf := g_iff hf c10
            refine lv_goto (tgt := 94) hx hb dX9_again_79 (by decide) ?_
            refine lv_iinc (v := (v6 + 1)) (lv' := [(6, .int (v6 + 1)), (5, .int (v5 + u7)), (0, .ref (ga G 63)), (1, .int v1), (2, .int v2), (3, .int v3), (4, .int v4)]) hx hb dX9_again_94 hl (k := 6) rfl rfl (by decide) rfl (fun ls hl => ?_)
            refine lv_goto (tgt := 34) hx hb dX9_again_97 (by decide) ?_
            exact ih _ _ _ _ _ _ _ _ _ _ _ hf hP hS (lv_sub hl [2, 3, 4, 5, 6, 1, 0] rfl) kk
def fX9_again_18 : Nat → GS → Int32 → Int32 → Int32 → Int32 → Option Int32
  | 0, _, _, _, _, _ => none
  | fu + 1, S, v1, v2, v3, v4 =>
    if (S.1 0) ≤ v4 then
      some v2
    else
      (fX9_again_34 gFuel S v1 v2 v3 v4 (0 : Int32) v4).bind fun u11 =>
      fX9_again_18 fu S v1 u11.1 u11.2 (v4 + 1)
set_option maxHeartbeats 4000000 in
set_option maxRecDepth 100000 in
theorem bX9_again_18 {p : Program} {l : Launch} {e : Env} {s : State} {m : MethodId} {args : Array Value} {below : List Frame} {meth : Method} {c : Code} {Q : State → Prop} {G : GP} (X : GX p s m meth c args cX9_again 7 (some .int) wsX9_again RX9) (E : gE WM G s)  : ∀ (fu : Nat) (S : GS) (v1 : Int32) (v2 : Int32) (v3 : Int32) (v4 : Int32) (R : Int32) (H : Heap) (locs : List Loc) (ls : Array Slot) (_ : fX9_again_18 fu S v1 v2 v3 v4 = some R) (_ : va_P (gD G) vwCl (WM G S ++ gF G) H) (_ : va_S (gA G) s.heap H locs) (_ : lv_has ls 7 [(0, .ref (ga G 63)), (1, .int v1), (2, .int v2), (3, .int v3), (4, .int v4)]) (_ : ∀ (H : Heap) (locs : List Loc) (ls : Array Slot), va_P (gD G) vwCl (WM G S ++ gF G) H → va_S (gA G) s.heap H locs → lv_has ls 7 [(2, .int R)] → W p l e (gR 1 24) s m args below meth c H locs 0 0 Q (F0 m 106 ls [])), W p l e (gR 1 24) s m args below meth c H locs 0 0 Q (F0 m 18 ls []) := by
  obtain ⟨hx, hb, -, -, hown, hts, -⟩ := id X
  intro fu
  induction fu with
  | zero =>
    intro S v1 v2 v3 v4 R H locs ls hf
    cases (show (none : Option Int32) = some R from hf)
  | succ fu ih =>
    intro S v1 v2 v3 v4 R H locs ls hf hP hS hl kk
    rw [fX9_again_18] at hf
    refine lv_iload hx hb dX9_again_18 (lv_at hl 4 rfl) ?_
    refine lv_aload_n hx hb dX9_again_20 rfl (lv_at hl 0 rfl) ?_
    refine ggM_0 X E hP inX9_again_X9 lkX9_again_0 dX9_again_21 ?_
    refine lv_icmp_ge (tgt := 106) hx hb dX9_again_24 (by decide) (fun c2 => ?_) (fun c2 => ?_)
    · have hf := g_ift hf c2
      obtain rfl := g_some hf
      exact kk _ _ _ hP hS (lv_sub hl [2] rfl)
    · have hf := g_iff hf c2
      refine lv_iconst (v := 0) hx hb dX9_again_27 (by decide) ?_
      refine lv_istore (lv' := [(5, .int (0 : Int32)), (0, .ref (ga G 63)), (1, .int v1), (2, .int v2), (3, .int v3), (4, .int v4)]) hx hb dX9_again_28 hl (by decide) rfl (fun ls hl => ?_)
      refine lv_iload hx hb dX9_again_30 (lv_at hl 5 rfl) ?_
      refine lv_istore (lv' := [(6, .int v4), (5, .int (0 : Int32)), (0, .ref (ga G 63)), (1, .int v1), (2, .int v2), (3, .int v3), (4, .int v4)]) hx hb dX9_again_32 hl (by decide) rfl (fun ls hl => ?_)
      obtain ⟨u11, h12, hf⟩ := g_bind hf
      refine bX9_again_34 X E gFuel _ _ _ _ _ _ _ u11 _ _ _ h12 hP hS (lv_sub hl [2, 3, 4, 5, 6, 1, 0] rfl) (fun H locs ls hP hS hl => ?_)
      have hl : lv_has ls 7 [(0, .ref (ga G 63)), (1, .int v1), (2, .int u11.1), (3, .int u11.2), (4, .int v4)] := hl
      refine lv_iinc (v := (v4 + 1)) (lv' := [(4, .int (v4 + 1)), (0, .ref (ga G 63)), (1, .int v1), (2, .int u11.1), (3, .int u11.2)]) hx hb dX9_again_100 hl (k := 4) rfl rfl (by decide) rfl (fun ls hl => ?_)
      refine lv_goto (tgt := 18) hx hb dX9_again_103 (by decide) ?_
      exact ih _ _ _ _ _ _ _ _ _ hf hP hS (lv_sub hl [1, 2, 3, 4, 0] rfl) kk
def fX9_again (S : GS) (a1 : Int32) : Option (Int32 × GS) :=
  if 0 ≤ a1 then
    (fX9_again_18 gFuel S a1 (-1 : Int32) (0 : Int32) (0 : Int32)).bind fun u13 =>
    some (u13, S)
  else
    (fX9_noTen S (-6 : Int32)).bind fun u15 =>
    some (u15.1, u15.2)
set_option maxHeartbeats 4000000 in
set_option maxRecDepth 100000 in
theorem tcX9_again (l : Launch) (G : GP) (S : GS) (a1 : Int32) {R : (Int32 × GS)} (hf : fX9_again S a1 = some R) : CI l yX9_again wsX9_again 1 24 [.ref (ga G 63), .int a1] WM G S R.1 R.2 := by
  refine g_met RX9 (cc := cX9_again) (nL := 7) (ret := (some .int)) (by decide) rfl rfl (Nat.le_of_ble_eq_true rfl) ?_
  intro p e s m below meth c ls X E hP hS hl
  have hl : lv_has ls 7 [(0, .ref (ga G 63)), (1, .int a1)] := hl
  obtain ⟨hx, hb, -, -, hown, hts, -⟩ := id X
  rw [fX9_again] at hf
  refine lv_iload_n hx hb dX9_again_0 rfl (lv_at hl 1 rfl) ?_
  refine lv_if_ge (tgt := 11) hx hb dX9_again_1 (by decide) (fun c1 => ?_) (fun c1 => ?_)
  · have hf := g_ift hf c1
    refine lv_iconst (v := -1) hx hb dX9_again_11 (by decide) ?_
    refine lv_istore_n (lv' := [(2, .int (-1 : Int32)), (0, .ref (ga G 63)), (1, .int a1)]) hx hb dX9_again_12 rfl hl (by decide) rfl (fun ls hl => ?_)
    refine lv_iconst (v := 0) hx hb dX9_again_13 (by decide) ?_
    refine lv_istore_n (lv' := [(3, .int (0 : Int32)), (2, .int (-1 : Int32)), (0, .ref (ga G 63)), (1, .int a1)]) hx hb dX9_again_14 rfl hl (by decide) rfl (fun ls hl => ?_)
    refine lv_iconst (v := 0) hx hb dX9_again_15 (by decide) ?_
    refine lv_istore (lv' := [(4, .int (0 : Int32)), (3, .int (0 : Int32)), (2, .int (-1 : Int32)), (0, .ref (ga G 63)), (1, .int a1)]) hx hb dX9_again_16 hl (by decide) rfl (fun ls hl => ?_)
    obtain ⟨u13, h14, hf⟩ := g_bind hf
    refine bX9_again_18 X E gFuel _ _ _ _ _ u13 _ _ _ h14 hP hS (lv_sub hl [3, 4, 2, 1, 0] rfl) (fun H locs ls hP hS hl => ?_)
    have hl : lv_has ls 7 [(2, .int u13)] := hl
    refine lv_iload_n hx hb dX9_again_106 rfl (lv_at hl 0 rfl) ?_
    obtain rfl := g_some hf
    exact g_ri X E hP hS dX9_again_107
  · have hf := g_iff hf c1
    refine lv_aload_n hx hb dX9_again_4 rfl (lv_at hl 0 rfl) ?_
    refine lv_bipush (v := -6) hx hb dX9_again_5 (by decide) ?_
    obtain ⟨u15, h16, hf⟩ := g_bind hf
    refine g_vi (rest := []) X E hP hS (tcX9_noTen l G _ _ h16) (g_cwV X gX9_again_X9_noTen rfl hdX9_noTen ⟨Nat.le_of_ble_eq_true rfl, Nat.le_of_ble_eq_true rfl⟩) (rcM_model E hP) rfl hl.1 rfl (Nat.le_of_ble_eq_true rfl) dX9_again_7 ⟨Nat.le_refl _, Nat.le_refl _⟩ (fun H locs hP hS => ?_)
    obtain rfl := g_some hf
    exact g_ri X E hP hS dX9_again_10
theorem lkX9_order_0 : Cond.fieldLink RX9 91 RX9 "many" "I" ∈ wsX9_order := by decide +kernel
theorem lkX9_order_1 : Cond.fieldLink RX9 26 RX9 "kind" "[I" ∈ wsX9_order := by decide +kernel
theorem inX9_order_X9 : ∀ w ∈ wsX90, w ∈ wsX9_order := by decide +kernel
def fX9_order_26 : Nat → GS → Int32 → Int32 → Option Int32
  | 0, _, _, _ => none
  | fu + 1, S, v2, v5 =>
    if (S.1 0) ≤ v5 then
      some v2
    else
      if v5 < 0 ∨ 16 ≤ (v5).toNatClampNeg then none else
      if (S.2.2.1 7 (v5).toNatClampNeg) = (2 : Int32) then
        fX9_order_26 fu S (v2 ||| ((1 : Int32) <<< (v5 &&& 31))) (v5 + 1)
      else
        if v5 < 0 ∨ 16 ≤ (v5).toNatClampNeg then none else
        if (S.2.2.1 7 (v5).toNatClampNeg) = (5 : Int32) then
          fX9_order_26 fu S (v2 ||| ((1 : Int32) <<< (v5 &&& 31))) (v5 + 1)
        else
          fX9_order_26 fu S v2 (v5 + 1)
set_option maxHeartbeats 4000000 in
set_option maxRecDepth 100000 in
theorem bX9_order_26 {p : Program} {l : Launch} {e : Env} {s : State} {m : MethodId} {args : Array Value} {below : List Frame} {meth : Method} {c : Code} {Q : State → Prop} {G : GP} (X : GX p s m meth c args cX9_order 9 (some .int) wsX9_order RX9) (E : gE WM G s) {v1 : Int32} {v3 : Int32} {v4 : Int32} : ∀ (fu : Nat) (S : GS) (v2 : Int32) (v5 : Int32) (R : Int32) (H : Heap) (locs : List Loc) (ls : Array Slot) (_ : fX9_order_26 fu S v2 v5 = some R) (_ : va_P (gD G) vwCl (WM G S ++ gF G) H) (_ : va_S (gA G) s.heap H locs) (_ : lv_has ls 9 [(0, .ref (ga G 63)), (1, .int v1), (2, .int v2), (3, .int v3), (4, .int v4), (5, .int v5)]) (_ : ∀ (H : Heap) (locs : List Loc) (ls : Array Slot), va_P (gD G) vwCl (WM G S ++ gF G) H → va_S (gA G) s.heap H locs → lv_has ls 9 [(0, .ref (ga G 63)), (1, .int v1), (2, .int R), (3, .int v3), (4, .int v4)] → W p l e (gR 1 21) s m args below meth c H locs 0 0 Q (F0 m 70 ls [])), W p l e (gR 1 21) s m args below meth c H locs 0 0 Q (F0 m 26 ls []) := by
  obtain ⟨hx, hb, -, -, hown, hts, -⟩ := id X
  intro fu
  induction fu with
  | zero =>
    intro S v2 v5 R H locs ls hf
    cases (show (none : Option Int32) = some R from hf)
  | succ fu ih =>
    intro S v2 v5 R H locs ls hf hP hS hl kk
    rw [fX9_order_26] at hf
    refine lv_iload hx hb dX9_order_26 (lv_at hl 5 rfl) ?_
    refine lv_aload_n hx hb dX9_order_28 rfl (lv_at hl 0 rfl) ?_
    refine ggM_0 X E hP inX9_order_X9 lkX9_order_0 dX9_order_29 ?_
    refine lv_icmp_ge (tgt := 70) hx hb dX9_order_32 (by decide) (fun c5 => ?_) (fun c5 => ?_)
    · have hf := g_ift hf c5
      obtain rfl := g_some hf
      exact kk _ _ _ hP hS (lv_sub hl [0, 1, 2, 3, 4] rfl)
    · have hf := g_iff hf c5
      refine lv_aload_n hx hb dX9_order_35 rfl (lv_at hl 0 rfl) ?_
      refine ggM_7 X E hP inX9_order_X9 lkX9_order_1 dX9_order_36 ?_
      refine lv_iload hx hb dX9_order_39 (lv_at hl 5 rfl) ?_
      obtain ⟨b6, hf⟩ := g_if hf
      refine giM_7 X E hP b6 dX9_order_41 ?_
      refine lv_iconst (v := 2) hx hb dX9_order_42 (by decide) ?_
      refine lv_icmp_eq (tgt := 57) hx hb dX9_order_43 (by decide) (fun c7 => ?_) (fun c7 => ?_)
      · have hf := g_ift hf c7
        refine lv_iload_n hx hb dX9_order_57 rfl (lv_at hl 2 rfl) ?_
        refine lv_iconst (v := 1) hx hb dX9_order_58 (by decide) ?_
        refine lv_iload hx hb dX9_order_59 (lv_at hl 5 rfl) ?_
        refine lv_ishl hx hb dX9_order_61 ?_
        refine lv_ior hx hb dX9_order_62 ?_
        refine lv_istore_n (lv' := [(2, .int (v2 ||| ((1 : Int32) <<< (v5 &&& 31)))), (0, .ref (ga G 63)), (1, .int v1), (3, .int v3), (4, .int v4), (5, .int v5)]) hx hb dX9_order_63 rfl hl (by decide) rfl (fun ls hl => ?_)
        refine lv_iinc (v := (v5 + 1)) (lv' := [(5, .int (v5 + 1)), (2, .int (v2 ||| ((1 : Int32) <<< (v5 &&& 31)))), (0, .ref (ga G 63)), (1, .int v1), (3, .int v3), (4, .int v4)]) hx hb dX9_order_64 hl (k := 5) rfl rfl (by decide) rfl (fun ls hl => ?_)
        refine lv_goto (tgt := 26) hx hb dX9_order_67 (by decide) ?_
        exact ih _ _ _ _ _ _ _ hf hP hS (lv_sub hl [2, 3, 1, 4, 5, 0] rfl) kk
      · have hf := g_iff hf c7
        refine lv_aload_n hx hb dX9_order_46 rfl (lv_at hl 0 rfl) ?_
        refine ggM_7 X E hP inX9_order_X9 lkX9_order_1 dX9_order_47 ?_
        refine lv_iload hx hb dX9_order_50 (lv_at hl 5 rfl) ?_
        obtain ⟨b8, hf⟩ := g_if hf
        refine giM_7 X E hP b8 dX9_order_52 ?_
        refine lv_iconst (v := 5) hx hb dX9_order_53 (by decide) ?_
        refine lv_icmp_ne (tgt := 64) hx hb dX9_order_54 (by decide) (fun c9 => ?_) (fun c9 => ?_)
        · have hf := g_iff hf c9
          refine lv_iinc (v := (v5 + 1)) (lv' := [(5, .int (v5 + 1)), (0, .ref (ga G 63)), (1, .int v1), (2, .int v2), (3, .int v3), (4, .int v4)]) hx hb dX9_order_64 hl (k := 5) rfl rfl (by decide) rfl (fun ls hl => ?_)
          refine lv_goto (tgt := 26) hx hb dX9_order_67 (by decide) ?_
          exact ih _ _ _ _ _ _ _ hf hP hS (lv_sub hl [1, 2, 3, 4, 5, 0] rfl) kk
        · have hf := g_ift hf c9
          refine lv_iload_n hx hb dX9_order_57 rfl (lv_at hl 2 rfl) ?_
          refine lv_iconst (v := 1) hx hb dX9_order_58 (by decide) ?_
          refine lv_iload hx hb dX9_order_59 (lv_at hl 5 rfl) ?_
          refine lv_ishl hx hb dX9_order_61 ?_
          refine lv_ior hx hb dX9_order_62 ?_
          refine lv_istore_n (lv' := [(2, .int (v2 ||| ((1 : Int32) <<< (v5 &&& 31)))), (0, .ref (ga G 63)), (1, .int v1), (3, .int v3), (4, .int v4), (5, .int v5)]) hx hb dX9_order_63 rfl hl (by decide) rfl (fun ls hl => ?_)
          refine lv_iinc (v := (v5 + 1)) (lv' := [(5, .int (v5 + 1)), (2, .int (v2 ||| ((1 : Int32) <<< (v5 &&& 31)))), (0, .ref (ga G 63)), (1, .int v1), (3, .int v3), (4, .int v4)]) hx hb dX9_order_64 hl (k := 5) rfl rfl (by decide) rfl (fun ls hl => ?_)
          refine lv_goto (tgt := 26) hx hb dX9_order_67 (by decide) ?_
          exact ih _ _ _ _ _ _ _ hf hP hS (lv_sub hl [2, 3, 1, 4, 5, 0] rfl) kk
def fX9_order_100 : Nat → GS → Int32 → Int32 → Int32 → Int32 → Option Int32
  | 0, _, _, _, _, _ => none
  | fu + 1, S, v2, v6, v7, v8 =>
    if (S.1 0) ≤ v8 then
      some v7
    else
      if ((v2 >>> (v8 &&& 31)) &&& (1 : Int32)) = 0 then
        fX9_order_100 fu S v2 v6 v7 (v8 + 1)
      else
        if ((v6 >>> (v8 &&& 31)) &&& (1 : Int32)) = (1 : Int32) then
          (fX9_sinks S v8).bind fun u19 =>
          fX9_order_100 fu S v2 v6 (v7 + (-u19)) (v8 + 1)
        else
          (fX9_sinks S v8).bind fun u17 =>
          fX9_order_100 fu S v2 v6 (v7 + u17) (v8 + 1)
set_option maxHeartbeats 4000000 in
set_option maxRecDepth 100000 in
theorem bX9_order_100 {p : Program} {l : Launch} {e : Env} {s : State} {m : MethodId} {args : Array Value} {below : List Frame} {meth : Method} {c : Code} {Q : State → Prop} {G : GP} (X : GX p s m meth c args cX9_order 9 (some .int) wsX9_order RX9) (E : gE WM G s) {v1 : Int32} {v3 : Int32} {v4 : Int32} {v5 : Int32} : ∀ (fu : Nat) (S : GS) (v2 : Int32) (v6 : Int32) (v7 : Int32) (v8 : Int32) (R : Int32) (H : Heap) (locs : List Loc) (ls : Array Slot) (_ : fX9_order_100 fu S v2 v6 v7 v8 = some R) (_ : va_P (gD G) vwCl (WM G S ++ gF G) H) (_ : va_S (gA G) s.heap H locs) (_ : lv_has ls 9 [(0, .ref (ga G 63)), (1, .int v1), (2, .int v2), (3, .int v3), (4, .int v4), (5, .int v5), (6, .int v6), (7, .int v7), (8, .int v8)]) (_ : ∀ (H : Heap) (locs : List Loc) (ls : Array Slot), va_P (gD G) vwCl (WM G S ++ gF G) H → va_S (gA G) s.heap H locs → lv_has ls 9 [(0, .ref (ga G 63)), (1, .int v1), (2, .int v2), (3, .int v3), (4, .int v4), (5, .int v5), (6, .int v6), (7, .int R)] → W p l e (gR 1 21) s m args below meth c H locs 0 0 Q (F0 m 159 ls [])), W p l e (gR 1 21) s m args below meth c H locs 0 0 Q (F0 m 100 ls []) := by
  obtain ⟨hx, hb, -, -, hown, hts, -⟩ := id X
  intro fu
  induction fu with
  | zero =>
    intro S v2 v6 v7 v8 R H locs ls hf
    cases (show (none : Option Int32) = some R from hf)
  | succ fu ih =>
    intro S v2 v6 v7 v8 R H locs ls hf hP hS hl kk
    rw [fX9_order_100] at hf
    refine lv_iload hx hb dX9_order_100 (lv_at hl 8 rfl) ?_
    refine lv_aload_n hx hb dX9_order_102 rfl (lv_at hl 0 rfl) ?_
    refine ggM_0 X E hP inX9_order_X9 lkX9_order_0 dX9_order_103 ?_
    refine lv_icmp_ge (tgt := 159) hx hb dX9_order_106 (by decide) (fun c14 => ?_) (fun c14 => ?_)
    · have hf := g_ift hf c14
      obtain rfl := g_some hf
      exact kk _ _ _ hP hS (lv_sub hl [0, 1, 2, 3, 4, 5, 6, 7] rfl)
    · have hf := g_iff hf c14
      refine lv_iload_n hx hb dX9_order_109 rfl (lv_at hl 2 rfl) ?_
      refine lv_iload hx hb dX9_order_110 (lv_at hl 8 rfl) ?_
      refine lv_ishr hx hb dX9_order_112 ?_
      refine lv_iconst (v := 1) hx hb dX9_order_113 (by decide) ?_
      refine lv_iand hx hb dX9_order_114 ?_
      refine lv_if_ne (tgt := 121) hx hb dX9_order_115 (by decide) (fun c15 => ?_) (fun c15 => ?_)
      · have hf := g_iff hf c15
        refine lv_iload hx hb dX9_order_121 (lv_at hl 7 rfl) ?_
        refine lv_iload hx hb dX9_order_123 (lv_at hl 6 rfl) ?_
        refine lv_iload hx hb dX9_order_125 (lv_at hl 8 rfl) ?_
        refine lv_ishr hx hb dX9_order_127 ?_
        refine lv_iconst (v := 1) hx hb dX9_order_128 (by decide) ?_
        refine lv_iand hx hb dX9_order_129 ?_
        refine lv_iconst (v := 1) hx hb dX9_order_130 (by decide) ?_
        refine lv_icmp_ne (tgt := 144) hx hb dX9_order_131 (by decide) (fun c16 => ?_) (fun c16 => ?_)
        · have hf := g_iff hf c16
          refine lv_aload_n hx hb dX9_order_144 rfl (lv_at hl 0 rfl) ?_
          refine lv_iload hx hb dX9_order_145 (lv_at hl 8 rfl) ?_
          obtain ⟨u17, h18, hf⟩ := g_bind hf
          refine g_vi (rest := [.int v7]) X E hP hS (tcX9_sinks l G _ _ h18) (g_cwV X gX9_order_X9_sinks rfl hdX9_sinks ⟨Nat.le_of_ble_eq_true rfl, Nat.le_of_ble_eq_true rfl⟩) (rcM_model E hP) rfl hl.1 rfl (Nat.le_of_ble_eq_true rfl) dX9_order_147 ⟨Nat.le_refl _, Nat.le_refl _⟩ (fun H locs hP hS => ?_)
          refine lv_iadd hx hb dX9_order_150 ?_
          refine lv_istore (lv' := [(7, .int (v7 + u17)), (0, .ref (ga G 63)), (1, .int v1), (2, .int v2), (3, .int v3), (4, .int v4), (5, .int v5), (6, .int v6), (8, .int v8)]) hx hb dX9_order_151 hl (by decide) rfl (fun ls hl => ?_)
          refine lv_iinc (v := (v8 + 1)) (lv' := [(8, .int (v8 + 1)), (7, .int (v7 + u17)), (0, .ref (ga G 63)), (1, .int v1), (2, .int v2), (3, .int v3), (4, .int v4), (5, .int v5), (6, .int v6)]) hx hb dX9_order_153 hl (k := 8) rfl rfl (by decide) rfl (fun ls hl => ?_)
          refine lv_goto (tgt := 100) hx hb dX9_order_156 (by decide) ?_
          exact ih _ _ _ _ _ _ _ _ _ hf hP hS (lv_sub hl [2, 3, 4, 5, 6, 7, 8, 1, 0] rfl) kk
        · have hf := g_ift hf c16
          refine lv_aload_n hx hb dX9_order_134 rfl (lv_at hl 0 rfl) ?_
          refine lv_iload hx hb dX9_order_135 (lv_at hl 8 rfl) ?_
          obtain ⟨u19, h20, hf⟩ := g_bind hf
          refine g_vi (rest := [.int v7]) X E hP hS (tcX9_sinks l G _ _ h20) (g_cwV X gX9_order_X9_sinks rfl hdX9_sinks ⟨Nat.le_of_ble_eq_true rfl, Nat.le_of_ble_eq_true rfl⟩) (rcM_model E hP) rfl hl.1 rfl (Nat.le_of_ble_eq_true rfl) dX9_order_137 ⟨Nat.le_refl _, Nat.le_refl _⟩ (fun H locs hP hS => ?_)
          refine lv_ineg hx hb dX9_order_140 ?_
          refine lv_goto (tgt := 150) hx hb dX9_order_141 (by decide) ?_
          refine lv_iadd hx hb dX9_order_150 ?_
          refine lv_istore (lv' := [(7, .int (v7 + (-u19))), (0, .ref (ga G 63)), (1, .int v1), (2, .int v2), (3, .int v3), (4, .int v4), (5, .int v5), (6, .int v6), (8, .int v8)]) hx hb dX9_order_151 hl (by decide) rfl (fun ls hl => ?_)
          refine lv_iinc (v := (v8 + 1)) (lv' := [(8, .int (v8 + 1)), (7, .int (v7 + (-u19))), (0, .ref (ga G 63)), (1, .int v1), (2, .int v2), (3, .int v3), (4, .int v4), (5, .int v5), (6, .int v6)]) hx hb dX9_order_153 hl (k := 8) rfl rfl (by decide) rfl (fun ls hl => ?_)
          refine lv_goto (tgt := 100) hx hb dX9_order_156 (by decide) ?_
          exact ih _ _ _ _ _ _ _ _ _ hf hP hS (lv_sub hl [2, 3, 4, 5, 6, 7, 8, 1, 0] rfl) kk
      · have hf := g_ift hf c15
        refine lv_goto (tgt := 153) hx hb dX9_order_118 (by decide) ?_
        refine lv_iinc (v := (v8 + 1)) (lv' := [(8, .int (v8 + 1)), (0, .ref (ga G 63)), (1, .int v1), (2, .int v2), (3, .int v3), (4, .int v4), (5, .int v5), (6, .int v6), (7, .int v7)]) hx hb dX9_order_153 hl (k := 8) rfl rfl (by decide) rfl (fun ls hl => ?_)
        refine lv_goto (tgt := 100) hx hb dX9_order_156 (by decide) ?_
        exact ih _ _ _ _ _ _ _ _ _ hf hP hS (lv_sub hl [1, 2, 3, 4, 5, 6, 7, 8, 0] rfl) kk
def fX9_order_76 : Nat → GS → Int32 → Int32 → Int32 → Int32 → Int32 → Option (Int32 × Int32)
  | 0, _, _, _, _, _, _ => none
  | fu + 1, S, v2, v3, v4, v5, v6 =>
    if v2 < v6 then
      some (v3, v4)
    else
      if (v6 &&& v2) = v6 then
        (fX9_order_100 gFuel S v2 v6 (0 : Int32) (0 : Int32)).bind fun u21 =>
        if v5 = 0 then
          fX9_order_76 fu S v2 v6 u21 (1 : Int32) (v6 + 1)
        else
          (fX9_abs S u21).bind fun u24 =>
          (fX9_abs S v4).bind fun u26 =>
          if u24 < u26 then
            fX9_order_76 fu S v2 v6 u21 (1 : Int32) (v6 + 1)
          else
            fX9_order_76 fu S v2 v3 v4 v5 (v6 + 1)
      else
        fX9_order_76 fu S v2 v3 v4 v5 (v6 + 1)
set_option maxHeartbeats 4000000 in
set_option maxRecDepth 100000 in
theorem bX9_order_76 {p : Program} {l : Launch} {e : Env} {s : State} {m : MethodId} {args : Array Value} {below : List Frame} {meth : Method} {c : Code} {Q : State → Prop} {G : GP} (X : GX p s m meth c args cX9_order 9 (some .int) wsX9_order RX9) (E : gE WM G s) {v1 : Int32} : ∀ (fu : Nat) (S : GS) (v2 : Int32) (v3 : Int32) (v4 : Int32) (v5 : Int32) (v6 : Int32) (R : (Int32 × Int32)) (H : Heap) (locs : List Loc) (ls : Array Slot) (_ : fX9_order_76 fu S v2 v3 v4 v5 v6 = some R) (_ : va_P (gD G) vwCl (WM G S ++ gF G) H) (_ : va_S (gA G) s.heap H locs) (_ : lv_has ls 9 [(0, .ref (ga G 63)), (1, .int v1), (2, .int v2), (3, .int v3), (4, .int v4), (5, .int v5), (6, .int v6)]) (_ : ∀ (H : Heap) (locs : List Loc) (ls : Array Slot), va_P (gD G) vwCl (WM G S ++ gF G) H → va_S (gA G) s.heap H locs → lv_has ls 9 [(1, .int v1), (3, .int R.1), (4, .int R.2)] → W p l e (gR 1 21) s m args below meth c H locs 0 0 Q (F0 m 198 ls [])), W p l e (gR 1 21) s m args below meth c H locs 0 0 Q (F0 m 76 ls []) := by
  obtain ⟨hx, hb, -, -, hown, hts, -⟩ := id X
  intro fu
  induction fu with
  | zero =>
    intro S v2 v3 v4 v5 v6 R H locs ls hf
    cases (show (none : Option (Int32 × Int32)) = some R from hf)
  | succ fu ih =>
    intro S v2 v3 v4 v5 v6 R H locs ls hf hP hS hl kk
    rw [fX9_order_76] at hf
    refine lv_iload hx hb dX9_order_76 (lv_at hl 6 rfl) ?_
    refine lv_iload_n hx hb dX9_order_78 rfl (lv_at hl 2 rfl) ?_
    refine lv_icmp_gt (tgt := 198) hx hb dX9_order_79 (by decide) (fun c12 => ?_) (fun c12 => ?_)
    · have hf := g_ift hf c12
      obtain rfl := g_some hf
      exact kk _ _ _ hP hS (lv_sub hl [1, 3, 4] rfl)
    · have hf := g_iff hf c12
      refine lv_iload hx hb dX9_order_82 (lv_at hl 6 rfl) ?_
      refine lv_iload_n hx hb dX9_order_84 rfl (lv_at hl 2 rfl) ?_
      refine lv_iand hx hb dX9_order_85 ?_
      refine lv_iload hx hb dX9_order_86 (lv_at hl 6 rfl) ?_
      refine lv_icmp_eq (tgt := 94) hx hb dX9_order_88 (by decide) (fun c13 => ?_) (fun c13 => ?_)
      · have hf := g_ift hf c13
        refine lv_iconst (v := 0) hx hb dX9_order_94 (by decide) ?_
        refine lv_istore (lv' := [(7, .int (0 : Int32)), (0, .ref (ga G 63)), (1, .int v1), (2, .int v2), (3, .int v3), (4, .int v4), (5, .int v5), (6, .int v6)]) hx hb dX9_order_95 hl (by decide) rfl (fun ls hl => ?_)
        refine lv_iconst (v := 0) hx hb dX9_order_97 (by decide) ?_
        refine lv_istore (lv' := [(8, .int (0 : Int32)), (7, .int (0 : Int32)), (0, .ref (ga G 63)), (1, .int v1), (2, .int v2), (3, .int v3), (4, .int v4), (5, .int v5), (6, .int v6)]) hx hb dX9_order_98 hl (by decide) rfl (fun ls hl => ?_)
        obtain ⟨u21, h22, hf⟩ := g_bind hf
        refine bX9_order_100 X E gFuel _ _ _ _ _ u21 _ _ _ h22 hP hS (lv_sub hl [2, 3, 4, 5, 6, 7, 8, 1, 0] rfl) (fun H locs ls hP hS hl => ?_)
        have hl : lv_has ls 9 [(0, .ref (ga G 63)), (1, .int v1), (2, .int v2), (3, .int v3), (4, .int v4), (5, .int v5), (6, .int v6), (7, .int u21)] := hl
        refine lv_iload hx hb dX9_order_159 (lv_at hl 5 rfl) ?_
        refine lv_if_eq (tgt := 182) hx hb dX9_order_161 (by decide) (fun c23 => ?_) (fun c23 => ?_)
        · have hf := g_ift hf c23
          refine lv_iconst (v := 1) hx hb dX9_order_182 (by decide) ?_
          refine lv_istore (lv' := [(5, .int (1 : Int32)), (0, .ref (ga G 63)), (1, .int v1), (2, .int v2), (3, .int v3), (4, .int v4), (6, .int v6), (7, .int u21)]) hx hb dX9_order_183 hl (by decide) rfl (fun ls hl => ?_)
          refine lv_iload hx hb dX9_order_185 (lv_at hl 6 rfl) ?_
          refine lv_istore_n (lv' := [(3, .int v6), (5, .int (1 : Int32)), (0, .ref (ga G 63)), (1, .int v1), (2, .int v2), (4, .int v4), (6, .int v6), (7, .int u21)]) hx hb dX9_order_187 rfl hl (by decide) rfl (fun ls hl => ?_)
          refine lv_iload hx hb dX9_order_188 (lv_at hl 7 rfl) ?_
          refine lv_istore (lv' := [(4, .int u21), (3, .int v6), (5, .int (1 : Int32)), (0, .ref (ga G 63)), (1, .int v1), (2, .int v2), (6, .int v6), (7, .int u21)]) hx hb dX9_order_190 hl (by decide) rfl (fun ls hl => ?_)
          refine lv_iinc (v := (v6 + 1)) (lv' := [(6, .int (v6 + 1)), (4, .int u21), (3, .int v6), (5, .int (1 : Int32)), (0, .ref (ga G 63)), (1, .int v1), (2, .int v2), (7, .int u21)]) hx hb dX9_order_192 hl (k := 6) rfl rfl (by decide) rfl (fun ls hl => ?_)
          refine lv_goto (tgt := 76) hx hb dX9_order_195 (by decide) ?_
          exact ih _ _ _ _ _ _ _ _ _ _ hf hP hS (lv_sub hl [4, 5, 6, 2, 1, 3, 0] rfl) kk
        · have hf := g_iff hf c23
          refine lv_aload_n hx hb dX9_order_164 rfl (lv_at hl 0 rfl) ?_
          refine lv_iload hx hb dX9_order_165 (lv_at hl 7 rfl) ?_
          obtain ⟨u24, h25, hf⟩ := g_bind hf
          refine g_vi (rest := []) X E hP hS (tcX9_abs l G _ _ h25) (g_cwV X gX9_order_X9_abs rfl hdX9_abs ⟨Nat.le_of_ble_eq_true rfl, Nat.le_of_ble_eq_true rfl⟩) (rcM_model E hP) rfl hl.1 rfl (Nat.le_of_ble_eq_true rfl) dX9_order_167 ⟨Nat.le_refl _, Nat.le_refl _⟩ (fun H locs hP hS => ?_)
          refine lv_aload_n hx hb dX9_order_170 rfl (lv_at hl 0 rfl) ?_
          refine lv_iload hx hb dX9_order_171 (lv_at hl 4 rfl) ?_
          obtain ⟨u26, h27, hf⟩ := g_bind hf
          refine g_vi (rest := [.int u24]) X E hP hS (tcX9_abs l G _ _ h27) (g_cwV X gX9_order_X9_abs rfl hdX9_abs ⟨Nat.le_of_ble_eq_true rfl, Nat.le_of_ble_eq_true rfl⟩) (rcM_model E hP) rfl hl.1 rfl (Nat.le_of_ble_eq_true rfl) dX9_order_173 ⟨Nat.le_refl _, Nat.le_refl _⟩ (fun H locs hP hS => ?_)
          refine lv_icmp_lt (tgt := 182) hx hb dX9_order_176 (by decide) (fun c28 => ?_) (fun c28 => ?_)
          · have hf := g_ift hf c28
            refine lv_iconst (v := 1) hx hb dX9_order_182 (by decide) ?_
            refine lv_istore (lv' := [(5, .int (1 : Int32)), (0, .ref (ga G 63)), (1, .int v1), (2, .int v2), (3, .int v3), (4, .int v4), (6, .int v6), (7, .int u21)]) hx hb dX9_order_183 hl (by decide) rfl (fun ls hl => ?_)
            refine lv_iload hx hb dX9_order_185 (lv_at hl 6 rfl) ?_
            refine lv_istore_n (lv' := [(3, .int v6), (5, .int (1 : Int32)), (0, .ref (ga G 63)), (1, .int v1), (2, .int v2), (4, .int v4), (6, .int v6), (7, .int u21)]) hx hb dX9_order_187 rfl hl (by decide) rfl (fun ls hl => ?_)
            refine lv_iload hx hb dX9_order_188 (lv_at hl 7 rfl) ?_
            refine lv_istore (lv' := [(4, .int u21), (3, .int v6), (5, .int (1 : Int32)), (0, .ref (ga G 63)), (1, .int v1), (2, .int v2), (6, .int v6), (7, .int u21)]) hx hb dX9_order_190 hl (by decide) rfl (fun ls hl => ?_)
            refine lv_iinc (v := (v6 + 1)) (lv' := [(6, .int (v6 + 1)), (4, .int u21), (3, .int v6), (5, .int (1 : Int32)), (0, .ref (ga G 63)), (1, .int v1), (2, .int v2), (7, .int u21)]) hx hb dX9_order_192 hl (k := 6) rfl rfl (by decide) rfl (fun ls hl => ?_)
            refine lv_goto (tgt := 76) hx hb dX9_order_195 (by decide) ?_
            exact ih _ _ _ _ _ _ _ _ _ _ hf hP hS (lv_sub hl [4, 5, 6, 2, 1, 3, 0] rfl) kk
          · have hf := g_iff hf c28
            refine lv_goto (tgt := 192) hx hb dX9_order_179 (by decide) ?_
            refine lv_iinc (v := (v6 + 1)) (lv' := [(6, .int (v6 + 1)), (0, .ref (ga G 63)), (1, .int v1), (2, .int v2), (3, .int v3), (4, .int v4), (5, .int v5), (7, .int u21)]) hx hb dX9_order_192 hl (k := 6) rfl rfl (by decide) rfl (fun ls hl => ?_)
            refine lv_goto (tgt := 76) hx hb dX9_order_195 (by decide) ?_
            exact ih _ _ _ _ _ _ _ _ _ _ hf hP hS (lv_sub hl [1, 2, 3, 4, 5, 6, 0] rfl) kk
      · have hf := g_iff hf c13
        refine lv_goto (tgt := 192) hx hb dX9_order_91 (by decide) ?_
        refine lv_iinc (v := (v6 + 1)) (lv' := [(6, .int (v6 + 1)), (0, .ref (ga G 63)), (1, .int v1), (2, .int v2), (3, .int v3), (4, .int v4), (5, .int v5)]) hx hb dX9_order_192 hl (k := 6) rfl rfl (by decide) rfl (fun ls hl => ?_)
        refine lv_goto (tgt := 76) hx hb dX9_order_195 (by decide) ?_
        exact ih _ _ _ _ _ _ _ _ _ _ hf hP hS (lv_sub hl [1, 2, 3, 4, 5, 6, 0] rfl) kk
def fX9_order (S : GS) (a1 : Int32) : Option (Int32 × GS) :=
  if a1 < 0 then
    (fX9_noFar S (-5 : Int32)).bind fun u2 =>
    some (u2.1, u2.2)
  else
    if a1 ≤ (1 : Int32) then
      (fX9_order_26 gFuel S (0 : Int32) (0 : Int32)).bind fun u10 =>
      (fX9_order_76 gFuel S u10 (0 : Int32) (0 : Int32) (0 : Int32) (0 : Int32)).bind fun u29 =>
      if a1 = 0 then
        some (u29.1, S)
      else
        some (u29.2, S)
    else
      (fX9_noFar S (-5 : Int32)).bind fun u32 =>
      some (u32.1, u32.2)
set_option maxHeartbeats 4000000 in
set_option maxRecDepth 100000 in
theorem tcX9_order (l : Launch) (G : GP) (S : GS) (a1 : Int32) {R : (Int32 × GS)} (hf : fX9_order S a1 = some R) : CI l yX9_order wsX9_order 1 21 [.ref (ga G 63), .int a1] WM G S R.1 R.2 := by
  refine g_met RX9 (cc := cX9_order) (nL := 9) (ret := (some .int)) (by decide) rfl rfl (Nat.le_of_ble_eq_true rfl) ?_
  intro p e s m below meth c ls X E hP hS hl
  have hl : lv_has ls 9 [(0, .ref (ga G 63)), (1, .int a1)] := hl
  obtain ⟨hx, hb, -, -, hown, hts, -⟩ := id X
  rw [fX9_order] at hf
  refine lv_iload_n hx hb dX9_order_0 rfl (lv_at hl 1 rfl) ?_
  refine lv_if_lt (tgt := 9) hx hb dX9_order_1 (by decide) (fun c1 => ?_) (fun c1 => ?_)
  · have hf := g_ift hf c1
    refine lv_aload_n hx hb dX9_order_9 rfl (lv_at hl 0 rfl) ?_
    refine lv_bipush (v := -5) hx hb dX9_order_10 (by decide) ?_
    obtain ⟨u2, h3, hf⟩ := g_bind hf
    refine g_vi (rest := []) X E hP hS (tcX9_noFar l G _ _ h3) (g_cwV X gX9_order_X9_noFar rfl hdX9_noFar ⟨Nat.le_of_ble_eq_true rfl, Nat.le_of_ble_eq_true rfl⟩) (rcM_model E hP) rfl hl.1 rfl (Nat.le_of_ble_eq_true rfl) dX9_order_12 ⟨Nat.le_refl _, Nat.le_refl _⟩ (fun H locs hP hS => ?_)
    obtain rfl := g_some hf
    exact g_ri X E hP hS dX9_order_15
  · have hf := g_iff hf c1
    refine lv_iload_n hx hb dX9_order_4 rfl (lv_at hl 1 rfl) ?_
    refine lv_iconst (v := 1) hx hb dX9_order_5 (by decide) ?_
    refine lv_icmp_le (tgt := 16) hx hb dX9_order_6 (by decide) (fun c4 => ?_) (fun c4 => ?_)
    · have hf := g_ift hf c4
      refine lv_iconst (v := 0) hx hb dX9_order_16 (by decide) ?_
      refine lv_istore_n (lv' := [(2, .int (0 : Int32)), (0, .ref (ga G 63)), (1, .int a1)]) hx hb dX9_order_17 rfl hl (by decide) rfl (fun ls hl => ?_)
      refine lv_iconst (v := 0) hx hb dX9_order_18 (by decide) ?_
      refine lv_istore_n (lv' := [(3, .int (0 : Int32)), (2, .int (0 : Int32)), (0, .ref (ga G 63)), (1, .int a1)]) hx hb dX9_order_19 rfl hl (by decide) rfl (fun ls hl => ?_)
      refine lv_iconst (v := 0) hx hb dX9_order_20 (by decide) ?_
      refine lv_istore (lv' := [(4, .int (0 : Int32)), (3, .int (0 : Int32)), (2, .int (0 : Int32)), (0, .ref (ga G 63)), (1, .int a1)]) hx hb dX9_order_21 hl (by decide) rfl (fun ls hl => ?_)
      refine lv_iconst (v := 0) hx hb dX9_order_23 (by decide) ?_
      refine lv_istore (lv' := [(5, .int (0 : Int32)), (4, .int (0 : Int32)), (3, .int (0 : Int32)), (2, .int (0 : Int32)), (0, .ref (ga G 63)), (1, .int a1)]) hx hb dX9_order_24 hl (by decide) rfl (fun ls hl => ?_)
      obtain ⟨u10, h11, hf⟩ := g_bind hf
      refine bX9_order_26 X E gFuel _ _ _ u10 _ _ _ h11 hP hS (lv_sub hl [4, 5, 3, 2, 1, 0] rfl) (fun H locs ls hP hS hl => ?_)
      have hl : lv_has ls 9 [(0, .ref (ga G 63)), (1, .int a1), (2, .int u10), (3, .int (0 : Int32)), (4, .int (0 : Int32))] := hl
      refine lv_iconst (v := 0) hx hb dX9_order_70 (by decide) ?_
      refine lv_istore (lv' := [(5, .int (0 : Int32)), (0, .ref (ga G 63)), (1, .int a1), (2, .int u10), (3, .int (0 : Int32)), (4, .int (0 : Int32))]) hx hb dX9_order_71 hl (by decide) rfl (fun ls hl => ?_)
      refine lv_iconst (v := 0) hx hb dX9_order_73 (by decide) ?_
      refine lv_istore (lv' := [(6, .int (0 : Int32)), (5, .int (0 : Int32)), (0, .ref (ga G 63)), (1, .int a1), (2, .int u10), (3, .int (0 : Int32)), (4, .int (0 : Int32))]) hx hb dX9_order_74 hl (by decide) rfl (fun ls hl => ?_)
      obtain ⟨u29, h30, hf⟩ := g_bind hf
      refine bX9_order_76 X E gFuel _ _ _ _ _ _ u29 _ _ _ h30 hP hS (lv_sub hl [2, 3, 4, 5, 6, 1, 0] rfl) (fun H locs ls hP hS hl => ?_)
      have hl : lv_has ls 9 [(1, .int a1), (3, .int u29.1), (4, .int u29.2)] := hl
      refine lv_iload_n hx hb dX9_order_198 rfl (lv_at hl 0 rfl) ?_
      refine lv_if_ne (tgt := 206) hx hb dX9_order_199 (by decide) (fun c31 => ?_) (fun c31 => ?_)
      · have hf := g_iff hf c31
        refine lv_iload hx hb dX9_order_206 (lv_at hl 2 rfl) ?_
        obtain rfl := g_some hf
        exact g_ri X E hP hS dX9_order_208
      · have hf := g_ift hf c31
        refine lv_iload_n hx hb dX9_order_202 rfl (lv_at hl 1 rfl) ?_
        refine lv_goto (tgt := 208) hx hb dX9_order_203 (by decide) ?_
        obtain rfl := g_some hf
        exact g_ri X E hP hS dX9_order_208
    · have hf := g_iff hf c4
      refine lv_aload_n hx hb dX9_order_9 rfl (lv_at hl 0 rfl) ?_
      refine lv_bipush (v := -5) hx hb dX9_order_10 (by decide) ?_
      obtain ⟨u32, h33, hf⟩ := g_bind hf
      refine g_vi (rest := []) X E hP hS (tcX9_noFar l G _ _ h33) (g_cwV X gX9_order_X9_noFar rfl hdX9_noFar ⟨Nat.le_of_ble_eq_true rfl, Nat.le_of_ble_eq_true rfl⟩) (rcM_model E hP) rfl hl.1 rfl (Nat.le_of_ble_eq_true rfl) dX9_order_12 ⟨Nat.le_refl _, Nat.le_refl _⟩ (fun H locs hP hS => ?_)
      obtain rfl := g_some hf
      exact g_ri X E hP hS dX9_order_15
theorem lkX9_meet_0 : Cond.fieldLink RX9 91 RX9 "many" "I" ∈ wsX9_meet := by decide +kernel
theorem lkX9_meet_1 : Cond.fieldLink RX9 134 RX9 "start" "I" ∈ wsX9_meet := by decide +kernel
theorem inX9_meet_X9 : ∀ w ∈ wsX90, w ∈ wsX9_meet := by decide +kernel
def fX9_meet (S : GS) (a1 : Int32) (a2 : Int32) (a3 : Int32) : Option (Int32 × GS) :=
  if a1 < (1 : Int32) then
    (fX9_noFar S (-5 : Int32)).bind fun u2 =>
    some (u2.1, u2.2)
  else
    if ((S.1 0) - (1 : Int32)) < a1 then
      (fX9_noFar S (-5 : Int32)).bind fun u5 =>
      some (u5.1, u5.2)
    else
      if a3 < 0 then
        (fX9_noFar S (-5 : Int32)).bind fun u8 =>
        some (u8.1, u8.2)
      else
        if a3 ≤ (1 : Int32) then
          if a2 < (-30000 : Int32) then
            (fX9_noFar S (-6 : Int32)).bind fun u12 =>
            some (u12.1, u12.2)
          else
            if a2 ≤ (30000 : Int32) then
              (fX9_rises S (0 : Int32) a1).bind fun u15 =>
              if a3 = 0 then
                some ((a2 - ((S.1 1) + u15)), S)
              else
                (fX9_yards S (0 : Int32) a1).bind fun u18 =>
                (fX9_yards S (0 : Int32) (S.1 0)).bind fun u20 =>
                if (u20).toInt64 = 0 then none else
                some ((((((a2 - ((S.1 1) + u15))).toInt64 * (u18).toInt64) / (u20).toInt64)).toInt32, S)
            else
              (fX9_noFar S (-6 : Int32)).bind fun u23 =>
              some (u23.1, u23.2)
        else
          (fX9_noFar S (-5 : Int32)).bind fun u25 =>
          some (u25.1, u25.2)
set_option maxHeartbeats 4000000 in
set_option maxRecDepth 100000 in
theorem tcX9_meet (l : Launch) (G : GP) (S : GS) (a1 : Int32) (a2 : Int32) (a3 : Int32) {R : (Int32 × GS)} (hf : fX9_meet S a1 a2 a3 = some R) : CI l yX9_meet wsX9_meet 4 88 [.ref (ga G 63), .int a1, .int a2, .int a3] WM G S R.1 R.2 := by
  refine g_met RX9 (cc := cX9_meet) (nL := 5) (ret := (some .int)) (by decide) rfl rfl (Nat.le_of_ble_eq_true rfl) ?_
  intro p e s m below meth c ls X E hP hS hl
  have hl : lv_has ls 5 [(0, .ref (ga G 63)), (1, .int a1), (2, .int a2), (3, .int a3)] := hl
  obtain ⟨hx, hb, -, -, hown, hts, -⟩ := id X
  rw [fX9_meet] at hf
  refine lv_iload_n hx hb dX9_meet_0 rfl (lv_at hl 1 rfl) ?_
  refine lv_iconst (v := 1) hx hb dX9_meet_1 (by decide) ?_
  refine lv_icmp_lt (tgt := 24) hx hb dX9_meet_2 (by decide) (fun c1 => ?_) (fun c1 => ?_)
  · have hf := g_ift hf c1
    refine lv_aload_n hx hb dX9_meet_24 rfl (lv_at hl 0 rfl) ?_
    refine lv_bipush (v := -5) hx hb dX9_meet_25 (by decide) ?_
    obtain ⟨u2, h3, hf⟩ := g_bind hf
    refine g_vi (rest := []) X E hP hS (tcX9_noFar l G _ _ h3) (g_cwV X gX9_meet_X9_noFar rfl hdX9_noFar ⟨Nat.le_of_ble_eq_true rfl, Nat.le_of_ble_eq_true rfl⟩) (rcM_model E hP) rfl hl.1 rfl (Nat.le_of_ble_eq_true rfl) dX9_meet_27 ⟨Nat.le_refl _, Nat.le_refl _⟩ (fun H locs hP hS => ?_)
    obtain rfl := g_some hf
    exact g_ri X E hP hS dX9_meet_30
  · have hf := g_iff hf c1
    refine lv_iload_n hx hb dX9_meet_5 rfl (lv_at hl 1 rfl) ?_
    refine lv_aload_n hx hb dX9_meet_6 rfl (lv_at hl 0 rfl) ?_
    refine ggM_0 X E hP inX9_meet_X9 lkX9_meet_0 dX9_meet_7 ?_
    refine lv_iconst (v := 1) hx hb dX9_meet_10 (by decide) ?_
    refine lv_isub hx hb dX9_meet_11 ?_
    refine lv_icmp_gt (tgt := 24) hx hb dX9_meet_12 (by decide) (fun c4 => ?_) (fun c4 => ?_)
    · have hf := g_ift hf c4
      refine lv_aload_n hx hb dX9_meet_24 rfl (lv_at hl 0 rfl) ?_
      refine lv_bipush (v := -5) hx hb dX9_meet_25 (by decide) ?_
      obtain ⟨u5, h6, hf⟩ := g_bind hf
      refine g_vi (rest := []) X E hP hS (tcX9_noFar l G _ _ h6) (g_cwV X gX9_meet_X9_noFar rfl hdX9_noFar ⟨Nat.le_of_ble_eq_true rfl, Nat.le_of_ble_eq_true rfl⟩) (rcM_model E hP) rfl hl.1 rfl (Nat.le_of_ble_eq_true rfl) dX9_meet_27 ⟨Nat.le_refl _, Nat.le_refl _⟩ (fun H locs hP hS => ?_)
      obtain rfl := g_some hf
      exact g_ri X E hP hS dX9_meet_30
    · have hf := g_iff hf c4
      refine lv_iload_n hx hb dX9_meet_15 rfl (lv_at hl 3 rfl) ?_
      refine lv_if_lt (tgt := 24) hx hb dX9_meet_16 (by decide) (fun c7 => ?_) (fun c7 => ?_)
      · have hf := g_ift hf c7
        refine lv_aload_n hx hb dX9_meet_24 rfl (lv_at hl 0 rfl) ?_
        refine lv_bipush (v := -5) hx hb dX9_meet_25 (by decide) ?_
        obtain ⟨u8, h9, hf⟩ := g_bind hf
        refine g_vi (rest := []) X E hP hS (tcX9_noFar l G _ _ h9) (g_cwV X gX9_meet_X9_noFar rfl hdX9_noFar ⟨Nat.le_of_ble_eq_true rfl, Nat.le_of_ble_eq_true rfl⟩) (rcM_model E hP) rfl hl.1 rfl (Nat.le_of_ble_eq_true rfl) dX9_meet_27 ⟨Nat.le_refl _, Nat.le_refl _⟩ (fun H locs hP hS => ?_)
        obtain rfl := g_some hf
        exact g_ri X E hP hS dX9_meet_30
      · have hf := g_iff hf c7
        refine lv_iload_n hx hb dX9_meet_19 rfl (lv_at hl 3 rfl) ?_
        refine lv_iconst (v := 1) hx hb dX9_meet_20 (by decide) ?_
        refine lv_icmp_le (tgt := 31) hx hb dX9_meet_21 (by decide) (fun c10 => ?_) (fun c10 => ?_)
        · have hf := g_ift hf c10
          refine lv_iload_n hx hb dX9_meet_31 rfl (lv_at hl 2 rfl) ?_
          refine lv_sipush (v := -30000) hx hb dX9_meet_32 (by decide) ?_
          refine lv_icmp_lt (tgt := 45) hx hb dX9_meet_35 (by decide) (fun c11 => ?_) (fun c11 => ?_)
          · have hf := g_ift hf c11
            refine lv_aload_n hx hb dX9_meet_45 rfl (lv_at hl 0 rfl) ?_
            refine lv_bipush (v := -6) hx hb dX9_meet_46 (by decide) ?_
            obtain ⟨u12, h13, hf⟩ := g_bind hf
            refine g_vi (rest := []) X E hP hS (tcX9_noFar l G _ _ h13) (g_cwV X gX9_meet_X9_noFar rfl hdX9_noFar ⟨Nat.le_of_ble_eq_true rfl, Nat.le_of_ble_eq_true rfl⟩) (rcM_model E hP) rfl hl.1 rfl (Nat.le_of_ble_eq_true rfl) dX9_meet_48 ⟨Nat.le_refl _, Nat.le_refl _⟩ (fun H locs hP hS => ?_)
            obtain rfl := g_some hf
            exact g_ri X E hP hS dX9_meet_51
          · have hf := g_iff hf c11
            refine lv_iload_n hx hb dX9_meet_38 rfl (lv_at hl 2 rfl) ?_
            refine lv_sipush (v := 30000) hx hb dX9_meet_39 (by decide) ?_
            refine lv_icmp_le (tgt := 52) hx hb dX9_meet_42 (by decide) (fun c14 => ?_) (fun c14 => ?_)
            · have hf := g_ift hf c14
              refine lv_iload_n hx hb dX9_meet_52 rfl (lv_at hl 2 rfl) ?_
              refine lv_aload_n hx hb dX9_meet_53 rfl (lv_at hl 0 rfl) ?_
              refine ggM_1 X E hP inX9_meet_X9 lkX9_meet_1 dX9_meet_54 ?_
              refine lv_aload_n hx hb dX9_meet_57 rfl (lv_at hl 0 rfl) ?_
              refine lv_iconst (v := 0) hx hb dX9_meet_58 (by decide) ?_
              refine lv_iload_n hx hb dX9_meet_59 rfl (lv_at hl 1 rfl) ?_
              obtain ⟨u15, h16, hf⟩ := g_bind hf
              refine g_vi (rest := [.int (S.1 1), .int a2]) X E hP hS (tcX9_rises l G _ _ _ h16) (g_cwV X gX9_meet_X9_rises rfl hdX9_rises ⟨Nat.le_of_ble_eq_true rfl, Nat.le_of_ble_eq_true rfl⟩) (rcM_model E hP) rfl hl.1 rfl (Nat.le_of_ble_eq_true rfl) dX9_meet_60 ⟨Nat.le_refl _, Nat.le_refl _⟩ (fun H locs hP hS => ?_)
              refine lv_iadd hx hb dX9_meet_63 ?_
              refine lv_isub hx hb dX9_meet_64 ?_
              refine lv_istore (lv' := [(4, .int (a2 - ((S.1 1) + u15))), (0, .ref (ga G 63)), (1, .int a1), (2, .int a2), (3, .int a3)]) hx hb dX9_meet_65 hl (by decide) rfl (fun ls hl => ?_)
              refine lv_iload_n hx hb dX9_meet_67 rfl (lv_at hl 4 rfl) ?_
              refine lv_if_ne (tgt := 76) hx hb dX9_meet_68 (by decide) (fun c17 => ?_) (fun c17 => ?_)
              · have hf := g_iff hf c17
                refine lv_iload hx hb dX9_meet_76 (lv_at hl 0 rfl) ?_
                refine lv_i2l hx hb dX9_meet_78 rfl ?_
                refine lv_aload_n hx hb dX9_meet_79 rfl (lv_at hl 1 rfl) ?_
                refine lv_iconst (v := 0) hx hb dX9_meet_80 (by decide) ?_
                refine lv_iload_n hx hb dX9_meet_81 rfl (lv_at hl 2 rfl) ?_
                obtain ⟨u18, h19, hf⟩ := g_bind hf
                refine g_vi (rest := [.long ((a2 - ((S.1 1) + u15))).toInt64]) X E hP hS (tcX9_yards l G _ _ _ h19) (g_cwV X gX9_meet_X9_yards rfl hdX9_yards ⟨Nat.le_of_ble_eq_true rfl, Nat.le_of_ble_eq_true rfl⟩) (rcM_model E hP) rfl hl.1 rfl (Nat.le_of_ble_eq_true rfl) dX9_meet_82 ⟨Nat.le_refl _, Nat.le_refl _⟩ (fun H locs hP hS => ?_)
                refine lv_i2l hx hb dX9_meet_85 rfl ?_
                refine lv_lmul hx hb dX9_meet_86 ?_
                refine lv_aload_n hx hb dX9_meet_87 rfl (lv_at hl 1 rfl) ?_
                refine lv_iconst (v := 0) hx hb dX9_meet_88 (by decide) ?_
                refine lv_aload_n hx hb dX9_meet_89 rfl (lv_at hl 1 rfl) ?_
                refine ggM_0 X E hP inX9_meet_X9 lkX9_meet_0 dX9_meet_90 ?_
                obtain ⟨u20, h21, hf⟩ := g_bind hf
                refine g_vi (rest := [.long (((a2 - ((S.1 1) + u15))).toInt64 * (u18).toInt64)]) X E hP hS (tcX9_yards l G _ _ _ h21) (g_cwV X gX9_meet_X9_yards rfl hdX9_yards ⟨Nat.le_of_ble_eq_true rfl, Nat.le_of_ble_eq_true rfl⟩) (rcM_model E hP) rfl hl.1 rfl (Nat.le_of_ble_eq_true rfl) dX9_meet_93 ⟨Nat.le_refl _, Nat.le_refl _⟩ (fun H locs hP hS => ?_)
                refine lv_i2l hx hb dX9_meet_96 rfl ?_
                obtain ⟨z22, hf⟩ := g_if hf
                refine lv_ldiv hx hb dX9_meet_97 z22 ?_
                refine lv_l2i hx hb dX9_meet_98 rfl ?_
                obtain rfl := g_some hf
                exact g_ri X E hP hS dX9_meet_99
              · have hf := g_ift hf c17
                refine lv_iload hx hb dX9_meet_71 (lv_at hl 0 rfl) ?_
                refine lv_goto (tgt := 99) hx hb dX9_meet_73 (by decide) ?_
                obtain rfl := g_some hf
                exact g_ri X E hP hS dX9_meet_99
            · have hf := g_iff hf c14
              refine lv_aload_n hx hb dX9_meet_45 rfl (lv_at hl 0 rfl) ?_
              refine lv_bipush (v := -6) hx hb dX9_meet_46 (by decide) ?_
              obtain ⟨u23, h24, hf⟩ := g_bind hf
              refine g_vi (rest := []) X E hP hS (tcX9_noFar l G _ _ h24) (g_cwV X gX9_meet_X9_noFar rfl hdX9_noFar ⟨Nat.le_of_ble_eq_true rfl, Nat.le_of_ble_eq_true rfl⟩) (rcM_model E hP) rfl hl.1 rfl (Nat.le_of_ble_eq_true rfl) dX9_meet_48 ⟨Nat.le_refl _, Nat.le_refl _⟩ (fun H locs hP hS => ?_)
              obtain rfl := g_some hf
              exact g_ri X E hP hS dX9_meet_51
        · have hf := g_iff hf c10
          refine lv_aload_n hx hb dX9_meet_24 rfl (lv_at hl 0 rfl) ?_
          refine lv_bipush (v := -5) hx hb dX9_meet_25 (by decide) ?_
          obtain ⟨u25, h26, hf⟩ := g_bind hf
          refine g_vi (rest := []) X E hP hS (tcX9_noFar l G _ _ h26) (g_cwV X gX9_meet_X9_noFar rfl hdX9_noFar ⟨Nat.le_of_ble_eq_true rfl, Nat.le_of_ble_eq_true rfl⟩) (rcM_model E hP) rfl hl.1 rfl (Nat.le_of_ble_eq_true rfl) dX9_meet_27 ⟨Nat.le_refl _, Nat.le_refl _⟩ (fun H locs hP hS => ?_)
          obtain rfl := g_some hf
          exact g_ri X E hP hS dX9_meet_30
def fX9_apart (S : GS) (a1 : Int32) (a2 : Int32) (a3 : Int32) : Option Int64 :=
  (fX9_intAt S a2 a3).bind fun u1 =>
  (fX9_intAt S a1 a3).bind fun u3 =>
  some ((u1).toInt64 - (u3).toInt64)
set_option maxHeartbeats 4000000 in
set_option maxRecDepth 100000 in
theorem tcX9_apart (l : Launch) (G : GP) (S : GS) (a1 : Int32) (a2 : Int32) (a3 : Int32) {R : Int64} (hf : fX9_apart S a1 a2 a3 = some R) : CL l yX9_apart wsX9_apart 1 22 [.ref (ga G 63), .int a1, .int a2, .int a3] WM G S R S := by
  refine g_met RX9 (cc := cX9_apart) (nL := 4) (ret := (some .long)) (by decide) rfl rfl (Nat.le_of_ble_eq_true rfl) ?_
  intro p e s m below meth c ls X E hP hS hl
  have hl : lv_has ls 4 [(0, .ref (ga G 63)), (1, .int a1), (2, .int a2), (3, .int a3)] := hl
  obtain ⟨hx, hb, -, -, hown, hts, -⟩ := id X
  rw [fX9_apart] at hf
  refine lv_aload_n hx hb dX9_apart_0 rfl (lv_at hl 0 rfl) ?_
  refine lv_iload_n hx hb dX9_apart_1 rfl (lv_at hl 2 rfl) ?_
  refine lv_iload_n hx hb dX9_apart_2 rfl (lv_at hl 3 rfl) ?_
  obtain ⟨u1, h2, hf⟩ := g_bind hf
  refine g_vi (rest := []) X E hP hS (tcX9_intAt l G _ _ _ h2) (g_cwV X gX9_apart_X9_intAt rfl hdX9_intAt ⟨Nat.le_of_ble_eq_true rfl, Nat.le_of_ble_eq_true rfl⟩) (rcM_model E hP) rfl hl.1 rfl (Nat.le_of_ble_eq_true rfl) dX9_apart_3 ⟨Nat.le_refl _, Nat.le_refl _⟩ (fun H locs hP hS => ?_)
  refine lv_i2l hx hb dX9_apart_6 rfl ?_
  refine lv_aload_n hx hb dX9_apart_7 rfl (lv_at hl 0 rfl) ?_
  refine lv_iload_n hx hb dX9_apart_8 rfl (lv_at hl 1 rfl) ?_
  refine lv_iload_n hx hb dX9_apart_9 rfl (lv_at hl 3 rfl) ?_
  obtain ⟨u3, h4, hf⟩ := g_bind hf
  refine g_vi (rest := [.long (u1).toInt64]) X E hP hS (tcX9_intAt l G _ _ _ h4) (g_cwV X gX9_apart_X9_intAt rfl hdX9_intAt ⟨Nat.le_of_ble_eq_true rfl, Nat.le_of_ble_eq_true rfl⟩) (rcM_model E hP) rfl hl.1 rfl (Nat.le_of_ble_eq_true rfl) dX9_apart_10 ⟨Nat.le_refl _, Nat.le_refl _⟩ (fun H locs hP hS => ?_)
  refine lv_i2l hx hb dX9_apart_13 rfl ?_
  refine lv_lsub hx hb dX9_apart_14 ?_
  obtain rfl := g_some hf
  exact g_rl X E hP hS dX9_apart_15
def fX9_areAlike_15 : Nat → GS → Int32 → Int32 → Int32 → Int32 → Int32 → Int32 → Option Int32
  | 0, _, _, _, _, _, _, _ => none
  | fu + 1, S, v1, v2, v3, v4, v5, v6 =>
    if v3 ≤ v6 then
      some (1 : Int32)
    else
      if v6 = v4 then
        fX9_areAlike_15 fu S v1 v2 v3 v4 v5 (v6 + 1)
      else
        (fX9_apart S v1 v2 v6).bind fun u4 =>
        (fX9_apart S v1 v2 v5).bind fun u6 =>
        if (lg_cmp u4 u6) = 0 then
          fX9_areAlike_15 fu S v1 v2 v3 v4 v5 (v6 + 1)
        else
          some (0 : Int32)
set_option maxHeartbeats 4000000 in
set_option maxRecDepth 100000 in
theorem bX9_areAlike_15 {p : Program} {l : Launch} {e : Env} {s : State} {m : MethodId} {args : Array Value} {below : List Frame} {meth : Method} {c : Code} {G : GP} (X : GX p s m meth c args cX9_areAlike 7 (some .boolean) wsX9_areAlike RX9) (E : gE WM G s)  : ∀ (fu : Nat) (S : GS) (v1 : Int32) (v2 : Int32) (v3 : Int32) (v4 : Int32) (v5 : Int32) (v6 : Int32) (R : Int32) (H : Heap) (locs : List Loc) (ls : Array Slot) (_ : fX9_areAlike_15 fu S v1 v2 v3 v4 v5 v6 = some R) (_ : va_P (gD G) vwCl (WM G S ++ gF G) H) (_ : va_S (gA G) s.heap H locs) (_ : lv_has ls 7 [(0, .ref (ga G 63)), (1, .int v1), (2, .int v2), (3, .int v3), (4, .int v4), (5, .int v5), (6, .int v6)]), W p l e (gR 2 45) s m args below meth c H locs 0 0 (MQ below (gQi WM G R S) args s 0 0 (gA G)) (F0 m 15 ls []) := by
  obtain ⟨hx, hb, -, -, hown, hts, -⟩ := id X
  intro fu
  induction fu with
  | zero =>
    intro S v1 v2 v3 v4 v5 v6 R H locs ls hf
    cases (show (none : Option Int32) = some R from hf)
  | succ fu ih =>
    intro S v1 v2 v3 v4 v5 v6 R H locs ls hf hP hS hl
    rw [fX9_areAlike_15] at hf
    refine lv_iload hx hb dX9_areAlike_15 (lv_at hl 6 rfl) ?_
    refine lv_iload_n hx hb dX9_areAlike_17 rfl (lv_at hl 3 rfl) ?_
    refine lv_icmp_ge (tgt := 56) hx hb dX9_areAlike_18 (by decide) (fun c2 => ?_) (fun c2 => ?_)
    · have hf := g_ift hf c2
      refine lv_iconst (v := 1) hx hb dX9_areAlike_56 (by decide) ?_
      obtain rfl := g_some hf
      exact g_rz (v := (1 : Int32)) X E hP hS rfl dX9_areAlike_57
    · have hf := g_iff hf c2
      refine lv_iload hx hb dX9_areAlike_21 (lv_at hl 6 rfl) ?_
      refine lv_iload hx hb dX9_areAlike_23 (lv_at hl 4 rfl) ?_
      refine lv_icmp_eq (tgt := 50) hx hb dX9_areAlike_25 (by decide) (fun c3 => ?_) (fun c3 => ?_)
      · have hf := g_ift hf c3
        refine lv_iinc (v := (v6 + 1)) (lv' := [(6, .int (v6 + 1)), (0, .ref (ga G 63)), (1, .int v1), (2, .int v2), (3, .int v3), (4, .int v4), (5, .int v5)]) hx hb dX9_areAlike_50 hl (k := 6) rfl rfl (by decide) rfl (fun ls hl => ?_)
        refine lv_goto (tgt := 15) hx hb dX9_areAlike_53 (by decide) ?_
        exact ih _ _ _ _ _ _ _ _ _ _ _ hf hP hS (lv_sub hl [1, 2, 3, 4, 5, 6, 0] rfl)
      · have hf := g_iff hf c3
        refine lv_aload_n hx hb dX9_areAlike_28 rfl (lv_at hl 0 rfl) ?_
        refine lv_iload_n hx hb dX9_areAlike_29 rfl (lv_at hl 1 rfl) ?_
        refine lv_iload_n hx hb dX9_areAlike_30 rfl (lv_at hl 2 rfl) ?_
        refine lv_iload hx hb dX9_areAlike_31 (lv_at hl 6 rfl) ?_
        obtain ⟨u4, h5, hf⟩ := g_bind hf
        refine g_vl (rest := []) X E hP hS (tcX9_apart l G _ _ _ _ h5) (g_cwV X gX9_areAlike_X9_apart rfl hdX9_apart ⟨Nat.le_of_ble_eq_true rfl, Nat.le_of_ble_eq_true rfl⟩) (rcM_model E hP) rfl hl.1 rfl (Nat.le_of_ble_eq_true rfl) dX9_areAlike_33 ⟨Nat.le_refl _, Nat.le_refl _⟩ (fun H locs hP hS => ?_)
        refine lv_aload_n hx hb dX9_areAlike_36 rfl (lv_at hl 0 rfl) ?_
        refine lv_iload_n hx hb dX9_areAlike_37 rfl (lv_at hl 1 rfl) ?_
        refine lv_iload_n hx hb dX9_areAlike_38 rfl (lv_at hl 2 rfl) ?_
        refine lv_iload hx hb dX9_areAlike_39 (lv_at hl 5 rfl) ?_
        obtain ⟨u6, h7, hf⟩ := g_bind hf
        refine g_vl (rest := [.long u4]) X E hP hS (tcX9_apart l G _ _ _ _ h7) (g_cwV X gX9_areAlike_X9_apart rfl hdX9_apart ⟨Nat.le_of_ble_eq_true rfl, Nat.le_of_ble_eq_true rfl⟩) (rcM_model E hP) rfl hl.1 rfl (Nat.le_of_ble_eq_true rfl) dX9_areAlike_41 ⟨Nat.le_refl _, Nat.le_refl _⟩ (fun H locs hP hS => ?_)
        refine W.lcmp hx hb dX9_areAlike_44 ?_
        refine lv_if_eq (tgt := 50) hx hb dX9_areAlike_45 (by decide) (fun c8 => ?_) (fun c8 => ?_)
        · have hf := g_ift hf c8
          refine lv_iinc (v := (v6 + 1)) (lv' := [(6, .int (v6 + 1)), (0, .ref (ga G 63)), (1, .int v1), (2, .int v2), (3, .int v3), (4, .int v4), (5, .int v5)]) hx hb dX9_areAlike_50 hl (k := 6) rfl rfl (by decide) rfl (fun ls hl => ?_)
          refine lv_goto (tgt := 15) hx hb dX9_areAlike_53 (by decide) ?_
          exact ih _ _ _ _ _ _ _ _ _ _ _ hf hP hS (lv_sub hl [1, 2, 3, 4, 5, 6, 0] rfl)
        · have hf := g_iff hf c8
          refine lv_iconst (v := 0) hx hb dX9_areAlike_48 (by decide) ?_
          obtain rfl := g_some hf
          exact g_rz (v := (0 : Int32)) X E hP hS rfl dX9_areAlike_49
def fX9_areAlike (S : GS) (a1 : Int32) (a2 : Int32) (a3 : Int32) (a4 : Int32) : Option Int32 :=
  if a4 = 0 then
    fX9_areAlike_15 gFuel S a1 a2 a3 a4 (1 : Int32) (0 : Int32)
  else
    fX9_areAlike_15 gFuel S a1 a2 a3 a4 (0 : Int32) (0 : Int32)
set_option maxHeartbeats 4000000 in
set_option maxRecDepth 100000 in
theorem tcX9_areAlike (l : Launch) (G : GP) (S : GS) (a1 : Int32) (a2 : Int32) (a3 : Int32) (a4 : Int32) {R : Int32} (hf : fX9_areAlike S a1 a2 a3 a4 = some R) : CI l yX9_areAlike wsX9_areAlike 2 45 [.ref (ga G 63), .int a1, .int a2, .int a3, .int a4] WM G S R S := by
  refine g_met RX9 (cc := cX9_areAlike) (nL := 7) (ret := (some .boolean)) (by decide) rfl rfl (Nat.le_of_ble_eq_true rfl) ?_
  intro p e s m below meth c ls X E hP hS hl
  have hl : lv_has ls 7 [(0, .ref (ga G 63)), (1, .int a1), (2, .int a2), (3, .int a3), (4, .int a4)] := hl
  obtain ⟨hx, hb, -, -, hown, hts, -⟩ := id X
  rw [fX9_areAlike] at hf
  refine lv_iload hx hb dX9_areAlike_0 (lv_at hl 4 rfl) ?_
  refine lv_if_ne (tgt := 9) hx hb dX9_areAlike_2 (by decide) (fun c1 => ?_) (fun c1 => ?_)
  · have hf := g_iff hf c1
    refine lv_iconst (v := 0) hx hb dX9_areAlike_9 (by decide) ?_
    refine lv_istore (lv' := [(5, .int (0 : Int32)), (0, .ref (ga G 63)), (1, .int a1), (2, .int a2), (3, .int a3), (4, .int a4)]) hx hb dX9_areAlike_10 hl (by decide) rfl (fun ls hl => ?_)
    refine lv_iconst (v := 0) hx hb dX9_areAlike_12 (by decide) ?_
    refine lv_istore (lv' := [(6, .int (0 : Int32)), (5, .int (0 : Int32)), (0, .ref (ga G 63)), (1, .int a1), (2, .int a2), (3, .int a3), (4, .int a4)]) hx hb dX9_areAlike_13 hl (by decide) rfl (fun ls hl => ?_)
    exact bX9_areAlike_15 X E gFuel _ _ _ _ _ _ _ _ _ _ _ hf hP hS (lv_sub hl [2, 3, 4, 5, 6, 1, 0] rfl)
  · have hf := g_ift hf c1
    refine lv_iconst (v := 1) hx hb dX9_areAlike_5 (by decide) ?_
    refine lv_goto (tgt := 10) hx hb dX9_areAlike_6 (by decide) ?_
    refine lv_istore (lv' := [(5, .int (1 : Int32)), (0, .ref (ga G 63)), (1, .int a1), (2, .int a2), (3, .int a3), (4, .int a4)]) hx hb dX9_areAlike_10 hl (by decide) rfl (fun ls hl => ?_)
    refine lv_iconst (v := 0) hx hb dX9_areAlike_12 (by decide) ?_
    refine lv_istore (lv' := [(6, .int (0 : Int32)), (5, .int (1 : Int32)), (0, .ref (ga G 63)), (1, .int a1), (2, .int a2), (3, .int a3), (4, .int a4)]) hx hb dX9_areAlike_13 hl (by decide) rfl (fun ls hl => ?_)
    exact bX9_areAlike_15 X E gFuel _ _ _ _ _ _ _ _ _ _ _ hf hP hS (lv_sub hl [2, 3, 4, 5, 6, 1, 0] rfl)
theorem lkX9_rose_0 : Cond.fieldLink RX9 50 RX9 "held" "[I" ∈ wsX9_rose := by decide +kernel
theorem lkX9_rose_1 : Cond.fieldLink RX9 56 RX9 "size" "[I" ∈ wsX9_rose := by decide +kernel
theorem inX9_rose_X9 : ∀ w ∈ wsX90, w ∈ wsX9_rose := by decide +kernel
def fX9_rose_L16 (S : GS) (v1 : Int32) (v2 : Int32) (v3 : Int32) : Option (Int32 × GS) :=
  (fX9_noTen S (-1 : Int32)).bind fun u4 =>
  some (u4.1, u4.2)
set_option maxHeartbeats 4000000 in
set_option maxRecDepth 100000 in
theorem bX9_rose_L16 {p : Program} {l : Launch} {e : Env} {s : State} {m : MethodId} {args : Array Value} {below : List Frame} {meth : Method} {c : Code} {G : GP} (X : GX p s m meth c args cX9_rose 6 (some .int) wsX9_rose RX9) (E : gE WM G s) (S : GS) (v1 : Int32) (v2 : Int32) (v3 : Int32) (R : (Int32 × GS)) (H : Heap) (locs : List Loc) (ls : Array Slot) (hf : fX9_rose_L16 S v1 v2 v3 = some R) (hP : va_P (gD G) vwCl (WM G S ++ gF G) H) (hS : va_S (gA G) s.heap H locs) (hl : lv_has ls 6 [(0, .ref (ga G 63)), (1, .int v1), (2, .int v2), (3, .int v3)]) : W p l e (gR 3 71) s m args below meth c H locs 0 0 (MQ below (gQi WM G R.1 R.2) args s 0 0 (gA G)) (F0 m 16 ls []) := by
  obtain ⟨hx, hb, -, -, hown, hts, -⟩ := id X
  rw [fX9_rose_L16] at hf
  refine lv_iconst (v := -1) hx hb dX9_rose_16 (by decide) ?_
  refine lv_goto (tgt := 119) hx hb dX9_rose_17 (by decide) ?_
  refine lv_istore (lv' := [(4, .int (-1 : Int32)), (0, .ref (ga G 63)), (1, .int v1), (2, .int v2), (3, .int v3)]) hx hb dX9_rose_119 hl (by decide) rfl (fun ls hl => ?_)
  refine lv_iload hx hb dX9_rose_121 (lv_at hl 0 rfl) ?_
  refine lv_if_eq (tgt := 133) hx hb dX9_rose_123 (by decide) (fun z => absurd z (by decide)) (fun _ => ?_)
  refine lv_aload_n hx hb dX9_rose_126 rfl (lv_at hl 1 rfl) ?_
  refine lv_iload hx hb dX9_rose_127 (lv_at hl 0 rfl) ?_
  obtain ⟨u4, h5, hf⟩ := g_bind hf
  refine g_vi (rest := []) X E hP hS (tcX9_noTen l G _ _ h5) (g_cwV X gX9_rose_X9_noTen rfl hdX9_noTen ⟨Nat.le_of_ble_eq_true rfl, Nat.le_of_ble_eq_true rfl⟩) (rcM_model E hP) rfl hl.1 rfl (Nat.le_of_ble_eq_true rfl) dX9_rose_129 ⟨Nat.le_refl _, Nat.le_refl _⟩ (fun H locs hP hS => ?_)
  obtain rfl := g_some hf
  exact g_ri X E hP hS dX9_rose_132
def fX9_rose_L40 (S : GS) (v1 : Int32) (v2 : Int32) (v3 : Int32) : Option (Int32 × GS) :=
  (fX9_noTen S (-2 : Int32)).bind fun u11 =>
  some (u11.1, u11.2)
set_option maxHeartbeats 4000000 in
set_option maxRecDepth 100000 in
theorem bX9_rose_L40 {p : Program} {l : Launch} {e : Env} {s : State} {m : MethodId} {args : Array Value} {below : List Frame} {meth : Method} {c : Code} {G : GP} (X : GX p s m meth c args cX9_rose 6 (some .int) wsX9_rose RX9) (E : gE WM G s) (S : GS) (v1 : Int32) (v2 : Int32) (v3 : Int32) (R : (Int32 × GS)) (H : Heap) (locs : List Loc) (ls : Array Slot) (hf : fX9_rose_L40 S v1 v2 v3 = some R) (hP : va_P (gD G) vwCl (WM G S ++ gF G) H) (hS : va_S (gA G) s.heap H locs) (hl : lv_has ls 6 [(0, .ref (ga G 63)), (1, .int v1), (2, .int v2), (3, .int v3)]) : W p l e (gR 3 71) s m args below meth c H locs 0 0 (MQ below (gQi WM G R.1 R.2) args s 0 0 (gA G)) (F0 m 40 ls []) := by
  obtain ⟨hx, hb, -, -, hown, hts, -⟩ := id X
  rw [fX9_rose_L40] at hf
  refine lv_bipush (v := -2) hx hb dX9_rose_40 (by decide) ?_
  refine lv_goto (tgt := 119) hx hb dX9_rose_42 (by decide) ?_
  refine lv_istore (lv' := [(4, .int (-2 : Int32)), (0, .ref (ga G 63)), (1, .int v1), (2, .int v2), (3, .int v3)]) hx hb dX9_rose_119 hl (by decide) rfl (fun ls hl => ?_)
  refine lv_iload hx hb dX9_rose_121 (lv_at hl 0 rfl) ?_
  refine lv_if_eq (tgt := 133) hx hb dX9_rose_123 (by decide) (fun z => absurd z (by decide)) (fun _ => ?_)
  refine lv_aload_n hx hb dX9_rose_126 rfl (lv_at hl 1 rfl) ?_
  refine lv_iload hx hb dX9_rose_127 (lv_at hl 0 rfl) ?_
  obtain ⟨u11, h12, hf⟩ := g_bind hf
  refine g_vi (rest := []) X E hP hS (tcX9_noTen l G _ _ h12) (g_cwV X gX9_rose_X9_noTen rfl hdX9_noTen ⟨Nat.le_of_ble_eq_true rfl, Nat.le_of_ble_eq_true rfl⟩) (rcM_model E hP) rfl hl.1 rfl (Nat.le_of_ble_eq_true rfl) dX9_rose_129 ⟨Nat.le_refl _, Nat.le_refl _⟩ (fun H locs hP hS => ?_)
  obtain rfl := g_some hf
  exact g_ri X E hP hS dX9_rose_132
def fX9_rose_L63 (S : GS) (v1 : Int32) (v2 : Int32) (v3 : Int32) : Option (Int32 × GS) :=
  (fX9_noTen S (-3 : Int32)).bind fun u17 =>
  some (u17.1, u17.2)
set_option maxHeartbeats 4000000 in
set_option maxRecDepth 100000 in
theorem bX9_rose_L63 {p : Program} {l : Launch} {e : Env} {s : State} {m : MethodId} {args : Array Value} {below : List Frame} {meth : Method} {c : Code} {G : GP} (X : GX p s m meth c args cX9_rose 6 (some .int) wsX9_rose RX9) (E : gE WM G s) (S : GS) (v1 : Int32) (v2 : Int32) (v3 : Int32) (R : (Int32 × GS)) (H : Heap) (locs : List Loc) (ls : Array Slot) (hf : fX9_rose_L63 S v1 v2 v3 = some R) (hP : va_P (gD G) vwCl (WM G S ++ gF G) H) (hS : va_S (gA G) s.heap H locs) (hl : lv_has ls 6 [(0, .ref (ga G 63)), (1, .int v1), (2, .int v2), (3, .int v3)]) : W p l e (gR 3 71) s m args below meth c H locs 0 0 (MQ below (gQi WM G R.1 R.2) args s 0 0 (gA G)) (F0 m 63 ls []) := by
  obtain ⟨hx, hb, -, -, hown, hts, -⟩ := id X
  rw [fX9_rose_L63] at hf
  refine lv_bipush (v := -3) hx hb dX9_rose_63 (by decide) ?_
  refine lv_goto (tgt := 119) hx hb dX9_rose_65 (by decide) ?_
  refine lv_istore (lv' := [(4, .int (-3 : Int32)), (0, .ref (ga G 63)), (1, .int v1), (2, .int v2), (3, .int v3)]) hx hb dX9_rose_119 hl (by decide) rfl (fun ls hl => ?_)
  refine lv_iload hx hb dX9_rose_121 (lv_at hl 0 rfl) ?_
  refine lv_if_eq (tgt := 133) hx hb dX9_rose_123 (by decide) (fun z => absurd z (by decide)) (fun _ => ?_)
  refine lv_aload_n hx hb dX9_rose_126 rfl (lv_at hl 1 rfl) ?_
  refine lv_iload hx hb dX9_rose_127 (lv_at hl 0 rfl) ?_
  obtain ⟨u17, h18, hf⟩ := g_bind hf
  refine g_vi (rest := []) X E hP hS (tcX9_noTen l G _ _ h18) (g_cwV X gX9_rose_X9_noTen rfl hdX9_noTen ⟨Nat.le_of_ble_eq_true rfl, Nat.le_of_ble_eq_true rfl⟩) (rcM_model E hP) rfl hl.1 rfl (Nat.le_of_ble_eq_true rfl) dX9_rose_129 ⟨Nat.le_refl _, Nat.le_refl _⟩ (fun H locs hP hS => ?_)
  obtain rfl := g_some hf
  exact g_ri X E hP hS dX9_rose_132
def fX9_rose_L97 (S : GS) (v1 : Int32) (v2 : Int32) (v3 : Int32) : Option (Int32 × GS) :=
  (fX9_noTen S (-5 : Int32)).bind fun u24 =>
  some (u24.1, u24.2)
set_option maxHeartbeats 4000000 in
set_option maxRecDepth 100000 in
theorem bX9_rose_L97 {p : Program} {l : Launch} {e : Env} {s : State} {m : MethodId} {args : Array Value} {below : List Frame} {meth : Method} {c : Code} {G : GP} (X : GX p s m meth c args cX9_rose 6 (some .int) wsX9_rose RX9) (E : gE WM G s) (S : GS) (v1 : Int32) (v2 : Int32) (v3 : Int32) (R : (Int32 × GS)) (H : Heap) (locs : List Loc) (ls : Array Slot) (hf : fX9_rose_L97 S v1 v2 v3 = some R) (hP : va_P (gD G) vwCl (WM G S ++ gF G) H) (hS : va_S (gA G) s.heap H locs) (hl : lv_has ls 6 [(0, .ref (ga G 63)), (1, .int v1), (2, .int v2), (3, .int v3)]) : W p l e (gR 3 71) s m args below meth c H locs 0 0 (MQ below (gQi WM G R.1 R.2) args s 0 0 (gA G)) (F0 m 97 ls []) := by
  obtain ⟨hx, hb, -, -, hown, hts, -⟩ := id X
  rw [fX9_rose_L97] at hf
  refine lv_bipush (v := -5) hx hb dX9_rose_97 (by decide) ?_
  refine lv_goto (tgt := 119) hx hb dX9_rose_99 (by decide) ?_
  refine lv_istore (lv' := [(4, .int (-5 : Int32)), (0, .ref (ga G 63)), (1, .int v1), (2, .int v2), (3, .int v3)]) hx hb dX9_rose_119 hl (by decide) rfl (fun ls hl => ?_)
  refine lv_iload hx hb dX9_rose_121 (lv_at hl 0 rfl) ?_
  refine lv_if_eq (tgt := 133) hx hb dX9_rose_123 (by decide) (fun z => absurd z (by decide)) (fun _ => ?_)
  refine lv_aload_n hx hb dX9_rose_126 rfl (lv_at hl 1 rfl) ?_
  refine lv_iload hx hb dX9_rose_127 (lv_at hl 0 rfl) ?_
  obtain ⟨u24, h25, hf⟩ := g_bind hf
  refine g_vi (rest := []) X E hP hS (tcX9_noTen l G _ _ h25) (g_cwV X gX9_rose_X9_noTen rfl hdX9_noTen ⟨Nat.le_of_ble_eq_true rfl, Nat.le_of_ble_eq_true rfl⟩) (rcM_model E hP) rfl hl.1 rfl (Nat.le_of_ble_eq_true rfl) dX9_rose_129 ⟨Nat.le_refl _, Nat.le_refl _⟩ (fun H locs hP hS => ?_)
  obtain rfl := g_some hf
  exact g_ri X E hP hS dX9_rose_132
def fX9_rose_L113 (S : GS) (v1 : Int32) (v2 : Int32) (v3 : Int32) : Option (Int32 × GS) :=
  (fX9_noTen S (-6 : Int32)).bind fun u29 =>
  some (u29.1, u29.2)
set_option maxHeartbeats 4000000 in
set_option maxRecDepth 100000 in
theorem bX9_rose_L113 {p : Program} {l : Launch} {e : Env} {s : State} {m : MethodId} {args : Array Value} {below : List Frame} {meth : Method} {c : Code} {G : GP} (X : GX p s m meth c args cX9_rose 6 (some .int) wsX9_rose RX9) (E : gE WM G s) (S : GS) (v1 : Int32) (v2 : Int32) (v3 : Int32) (R : (Int32 × GS)) (H : Heap) (locs : List Loc) (ls : Array Slot) (hf : fX9_rose_L113 S v1 v2 v3 = some R) (hP : va_P (gD G) vwCl (WM G S ++ gF G) H) (hS : va_S (gA G) s.heap H locs) (hl : lv_has ls 6 [(0, .ref (ga G 63)), (1, .int v1), (2, .int v2), (3, .int v3)]) : W p l e (gR 3 71) s m args below meth c H locs 0 0 (MQ below (gQi WM G R.1 R.2) args s 0 0 (gA G)) (F0 m 113 ls []) := by
  obtain ⟨hx, hb, -, -, hown, hts, -⟩ := id X
  rw [fX9_rose_L113] at hf
  refine lv_bipush (v := -6) hx hb dX9_rose_113 (by decide) ?_
  refine lv_goto (tgt := 119) hx hb dX9_rose_115 (by decide) ?_
  refine lv_istore (lv' := [(4, .int (-6 : Int32)), (0, .ref (ga G 63)), (1, .int v1), (2, .int v2), (3, .int v3)]) hx hb dX9_rose_119 hl (by decide) rfl (fun ls hl => ?_)
  refine lv_iload hx hb dX9_rose_121 (lv_at hl 0 rfl) ?_
  refine lv_if_eq (tgt := 133) hx hb dX9_rose_123 (by decide) (fun z => absurd z (by decide)) (fun _ => ?_)
  refine lv_aload_n hx hb dX9_rose_126 rfl (lv_at hl 1 rfl) ?_
  refine lv_iload hx hb dX9_rose_127 (lv_at hl 0 rfl) ?_
  obtain ⟨u29, h30, hf⟩ := g_bind hf
  refine g_vi (rest := []) X E hP hS (tcX9_noTen l G _ _ h30) (g_cwV X gX9_rose_X9_noTen rfl hdX9_noTen ⟨Nat.le_of_ble_eq_true rfl, Nat.le_of_ble_eq_true rfl⟩) (rcM_model E hP) rfl hl.1 rfl (Nat.le_of_ble_eq_true rfl) dX9_rose_129 ⟨Nat.le_refl _, Nat.le_refl _⟩ (fun H locs hP hS => ?_)
  obtain rfl := g_some hf
  exact g_ri X E hP hS dX9_rose_132
def fX9_rose_149 : Nat → GS → Int32 → Int32 → Int32 → Int32 → Option (Int32 × GS)
  | 0, _, _, _, _, _ => none
  | fu + 1, S, v1, v2, v3, v5 =>
    if v3 ≤ v5 then
      some ((-2 : Int32), S)
    else
      (fX9_areAlike S v1 v2 v3 v5).bind fun u36 =>
      if u36 = 0 then
        fX9_rose_149 fu S v1 v2 v3 (v5 + 1)
      else
        some (v5, S)
set_option maxHeartbeats 4000000 in
set_option maxRecDepth 100000 in
theorem bX9_rose_149 {p : Program} {l : Launch} {e : Env} {s : State} {m : MethodId} {args : Array Value} {below : List Frame} {meth : Method} {c : Code} {G : GP} (X : GX p s m meth c args cX9_rose 6 (some .int) wsX9_rose RX9) (E : gE WM G s)  : ∀ (fu : Nat) (S : GS) (v1 : Int32) (v2 : Int32) (v3 : Int32) (v5 : Int32) (R : (Int32 × GS)) (H : Heap) (locs : List Loc) (ls : Array Slot) (_ : fX9_rose_149 fu S v1 v2 v3 v5 = some R) (_ : va_P (gD G) vwCl (WM G S ++ gF G) H) (_ : va_S (gA G) s.heap H locs) (_ : lv_has ls 6 [(0, .ref (ga G 63)), (1, .int v1), (2, .int v2), (3, .int v3), (5, .int v5)]), W p l e (gR 3 71) s m args below meth c H locs 0 0 (MQ below (gQi WM G R.1 R.2) args s 0 0 (gA G)) (F0 m 149 ls []) := by
  obtain ⟨hx, hb, -, -, hown, hts, -⟩ := id X
  intro fu
  induction fu with
  | zero =>
    intro S v1 v2 v3 v5 R H locs ls hf
    cases (show (none : Option (Int32 × GS)) = some R from hf)
  | succ fu ih =>
    intro S v1 v2 v3 v5 R H locs ls hf hP hS hl
    rw [fX9_rose_149] at hf
    refine lv_iload hx hb dX9_rose_149 (lv_at hl 4 rfl) ?_
    refine lv_iload_n hx hb dX9_rose_151 rfl (lv_at hl 3 rfl) ?_
    refine lv_icmp_ge (tgt := 176) hx hb dX9_rose_152 (by decide) (fun c35 => ?_) (fun c35 => ?_)
    · have hf := g_ift hf c35
      refine lv_bipush (v := -2) hx hb dX9_rose_176 (by decide) ?_
      obtain rfl := g_some hf
      exact g_ri X E hP hS dX9_rose_178
    · have hf := g_iff hf c35
      refine lv_aload_n hx hb dX9_rose_155 rfl (lv_at hl 0 rfl) ?_
      refine lv_iload_n hx hb dX9_rose_156 rfl (lv_at hl 1 rfl) ?_
      refine lv_iload_n hx hb dX9_rose_157 rfl (lv_at hl 2 rfl) ?_
      refine lv_iload_n hx hb dX9_rose_158 rfl (lv_at hl 3 rfl) ?_
      refine lv_iload hx hb dX9_rose_159 (lv_at hl 4 rfl) ?_
      obtain ⟨u36, h37, hf⟩ := g_bind hf
      refine g_vi (rest := []) X E hP hS (tcX9_areAlike l G _ _ _ _ _ h37) (g_cwV X gX9_rose_X9_areAlike rfl hdX9_areAlike ⟨Nat.le_of_ble_eq_true rfl, Nat.le_of_ble_eq_true rfl⟩) (rcM_model E hP) rfl hl.1 rfl (Nat.le_of_ble_eq_true rfl) dX9_rose_161 ⟨Nat.le_refl _, Nat.le_refl _⟩ (fun H locs hP hS => ?_)
      refine lv_if_eq (tgt := 170) hx hb dX9_rose_164 (by decide) (fun c38 => ?_) (fun c38 => ?_)
      · have hf := g_ift hf c38
        refine lv_iinc (v := (v5 + 1)) (lv' := [(5, .int (v5 + 1)), (0, .ref (ga G 63)), (1, .int v1), (2, .int v2), (3, .int v3)]) hx hb dX9_rose_170 hl (k := 4) rfl rfl (by decide) rfl (fun ls hl => ?_)
        refine lv_goto (tgt := 149) hx hb dX9_rose_173 (by decide) ?_
        exact ih _ _ _ _ _ _ _ _ _ hf hP hS (lv_sub hl [1, 2, 3, 4, 0] rfl)
      · have hf := g_iff hf c38
        refine lv_iload hx hb dX9_rose_167 (lv_at hl 4 rfl) ?_
        obtain rfl := g_some hf
        exact g_ri X E hP hS dX9_rose_169
def fX9_rose (S : GS) (a1 : Int32) (a2 : Int32) (a3 : Int32) : Option (Int32 × GS) :=
  (fX9_isShelf S a1).bind fun u1 =>
  if u1 = 0 then
    fX9_rose_L16 S a1 a2 a3
  else
    (fX9_isShelf S a2).bind fun u6 =>
    if u6 = 0 then
      fX9_rose_L16 S a1 a2 a3
    else
      if a1 < 0 ∨ 8 ≤ (a1).toNatClampNeg then none else
      if (S.2.2.1 15 (a1).toNatClampNeg) = (2 : Int32) then
        fX9_rose_L40 S a1 a2 a3
      else
        if a2 < 0 ∨ 8 ≤ (a2).toNatClampNeg then none else
        if (S.2.2.1 15 (a2).toNatClampNeg) = (2 : Int32) then
          fX9_rose_L40 S a1 a2 a3
        else
          if a1 < 0 ∨ 8 ≤ (a1).toNatClampNeg then none else
          if (S.2.2.1 15 (a1).toNatClampNeg) = 0 then
            fX9_rose_L63 S a1 a2 a3
          else
            if a2 < 0 ∨ 8 ≤ (a2).toNatClampNeg then none else
            if (S.2.2.1 15 (a2).toNatClampNeg) = 0 then
              fX9_rose_L63 S a1 a2 a3
            else
              if 0 ≤ a3 then
                if a1 < 0 ∨ 8 ≤ (a1).toNatClampNeg then none else
                if (S.2.2.1 17 (a1).toNatClampNeg) < a3 then
                  fX9_rose_L97 S a1 a2 a3
                else
                  if a2 < 0 ∨ 8 ≤ (a2).toNatClampNeg then none else
                  if a3 ≤ (S.2.2.1 17 (a2).toNatClampNeg) then
                    if a3 < (2 : Int32) then
                      fX9_rose_L113 S a1 a2 a3
                    else
                      if a3 ≤ (40 : Int32) then
                        (fX9_areAlike S a1 a2 a3 (-1 : Int32)).bind fun u32 =>
                        if u32 = 0 then
                          fX9_rose_149 gFuel S a1 a2 a3 (0 : Int32)
                        else
                          some ((-1 : Int32), S)
                      else
                        fX9_rose_L113 S a1 a2 a3
                  else
                    fX9_rose_L97 S a1 a2 a3
              else
                (fX9_noTen S (-4 : Int32)).bind fun u39 =>
                some (u39.1, u39.2)
set_option maxHeartbeats 4000000 in
set_option maxRecDepth 100000 in
theorem tcX9_rose (l : Launch) (G : GP) (S : GS) (a1 : Int32) (a2 : Int32) (a3 : Int32) {R : (Int32 × GS)} (hf : fX9_rose S a1 a2 a3 = some R) : CI l yX9_rose wsX9_rose 3 71 [.ref (ga G 63), .int a1, .int a2, .int a3] WM G S R.1 R.2 := by
  refine g_met RX9 (cc := cX9_rose) (nL := 6) (ret := (some .int)) (by decide) rfl rfl (Nat.le_of_ble_eq_true rfl) ?_
  intro p e s m below meth c ls X E hP hS hl
  have hl : lv_has ls 6 [(0, .ref (ga G 63)), (1, .int a1), (2, .int a2), (3, .int a3)] := hl
  obtain ⟨hx, hb, -, -, hown, hts, -⟩ := id X
  rw [fX9_rose] at hf
  refine lv_aload_n hx hb dX9_rose_0 rfl (lv_at hl 0 rfl) ?_
  refine lv_iload_n hx hb dX9_rose_1 rfl (lv_at hl 1 rfl) ?_
  obtain ⟨u1, h2, hf⟩ := g_bind hf
  refine g_vi (rest := []) X E hP hS (tcX9_isShelf l G _ _ h2) (g_cwV X gX9_rose_X9_isShelf rfl hdX9_isShelf ⟨Nat.le_of_ble_eq_true rfl, Nat.le_of_ble_eq_true rfl⟩) (rcM_model E hP) rfl hl.1 rfl (Nat.le_of_ble_eq_true rfl) dX9_rose_2 ⟨Nat.le_refl _, Nat.le_refl _⟩ (fun H locs hP hS => ?_)
  refine lv_if_eq (tgt := 16) hx hb dX9_rose_5 (by decide) (fun c3 => ?_) (fun c3 => ?_)
  · have hf := g_ift hf c3
    exact bX9_rose_L16 X E _ _ _ _ _ _ _ _ hf hP hS (lv_sub hl [0, 1, 2, 3] rfl)
  · have hf := g_iff hf c3
    refine lv_aload_n hx hb dX9_rose_8 rfl (lv_at hl 0 rfl) ?_
    refine lv_iload_n hx hb dX9_rose_9 rfl (lv_at hl 2 rfl) ?_
    obtain ⟨u6, h7, hf⟩ := g_bind hf
    refine g_vi (rest := []) X E hP hS (tcX9_isShelf l G _ _ h7) (g_cwV X gX9_rose_X9_isShelf rfl hdX9_isShelf ⟨Nat.le_of_ble_eq_true rfl, Nat.le_of_ble_eq_true rfl⟩) (rcM_model E hP) rfl hl.1 rfl (Nat.le_of_ble_eq_true rfl) dX9_rose_10 ⟨Nat.le_refl _, Nat.le_refl _⟩ (fun H locs hP hS => ?_)
    refine lv_if_ne (tgt := 20) hx hb dX9_rose_13 (by decide) (fun c8 => ?_) (fun c8 => ?_)
    · have hf := g_iff hf c8
      refine lv_aload_n hx hb dX9_rose_20 rfl (lv_at hl 0 rfl) ?_
      refine ggM_15 X E hP inX9_rose_X9 lkX9_rose_0 dX9_rose_21 ?_
      refine lv_iload_n hx hb dX9_rose_24 rfl (lv_at hl 1 rfl) ?_
      obtain ⟨b9, hf⟩ := g_if hf
      refine giM_15 X E hP b9 dX9_rose_25 ?_
      refine lv_iconst (v := 2) hx hb dX9_rose_26 (by decide) ?_
      refine lv_icmp_eq (tgt := 40) hx hb dX9_rose_27 (by decide) (fun c10 => ?_) (fun c10 => ?_)
      · have hf := g_ift hf c10
        exact bX9_rose_L40 X E _ _ _ _ _ _ _ _ hf hP hS (lv_sub hl [0, 1, 2, 3] rfl)
      · have hf := g_iff hf c10
        refine lv_aload_n hx hb dX9_rose_30 rfl (lv_at hl 0 rfl) ?_
        refine ggM_15 X E hP inX9_rose_X9 lkX9_rose_0 dX9_rose_31 ?_
        refine lv_iload_n hx hb dX9_rose_34 rfl (lv_at hl 2 rfl) ?_
        obtain ⟨b13, hf⟩ := g_if hf
        refine giM_15 X E hP b13 dX9_rose_35 ?_
        refine lv_iconst (v := 2) hx hb dX9_rose_36 (by decide) ?_
        refine lv_icmp_ne (tgt := 45) hx hb dX9_rose_37 (by decide) (fun c14 => ?_) (fun c14 => ?_)
        · have hf := g_iff hf c14
          refine lv_aload_n hx hb dX9_rose_45 rfl (lv_at hl 0 rfl) ?_
          refine ggM_15 X E hP inX9_rose_X9 lkX9_rose_0 dX9_rose_46 ?_
          refine lv_iload_n hx hb dX9_rose_49 rfl (lv_at hl 1 rfl) ?_
          obtain ⟨b15, hf⟩ := g_if hf
          refine giM_15 X E hP b15 dX9_rose_50 ?_
          refine lv_if_eq (tgt := 63) hx hb dX9_rose_51 (by decide) (fun c16 => ?_) (fun c16 => ?_)
          · have hf := g_ift hf c16
            exact bX9_rose_L63 X E _ _ _ _ _ _ _ _ hf hP hS (lv_sub hl [0, 1, 2, 3] rfl)
          · have hf := g_iff hf c16
            refine lv_aload_n hx hb dX9_rose_54 rfl (lv_at hl 0 rfl) ?_
            refine ggM_15 X E hP inX9_rose_X9 lkX9_rose_0 dX9_rose_55 ?_
            refine lv_iload_n hx hb dX9_rose_58 rfl (lv_at hl 2 rfl) ?_
            obtain ⟨b19, hf⟩ := g_if hf
            refine giM_15 X E hP b19 dX9_rose_59 ?_
            refine lv_if_ne (tgt := 68) hx hb dX9_rose_60 (by decide) (fun c20 => ?_) (fun c20 => ?_)
            · have hf := g_iff hf c20
              refine lv_iload_n hx hb dX9_rose_68 rfl (lv_at hl 3 rfl) ?_
              refine lv_if_ge (tgt := 77) hx hb dX9_rose_69 (by decide) (fun c21 => ?_) (fun c21 => ?_)
              · have hf := g_ift hf c21
                refine lv_iload_n hx hb dX9_rose_77 rfl (lv_at hl 3 rfl) ?_
                refine lv_aload_n hx hb dX9_rose_78 rfl (lv_at hl 0 rfl) ?_
                refine ggM_17 X E hP inX9_rose_X9 lkX9_rose_1 dX9_rose_79 ?_
                refine lv_iload_n hx hb dX9_rose_82 rfl (lv_at hl 1 rfl) ?_
                obtain ⟨b22, hf⟩ := g_if hf
                refine giM_17 X E hP b22 dX9_rose_83 ?_
                refine lv_icmp_gt (tgt := 97) hx hb dX9_rose_84 (by decide) (fun c23 => ?_) (fun c23 => ?_)
                · have hf := g_ift hf c23
                  exact bX9_rose_L97 X E _ _ _ _ _ _ _ _ hf hP hS (lv_sub hl [0, 1, 2, 3] rfl)
                · have hf := g_iff hf c23
                  refine lv_iload_n hx hb dX9_rose_87 rfl (lv_at hl 3 rfl) ?_
                  refine lv_aload_n hx hb dX9_rose_88 rfl (lv_at hl 0 rfl) ?_
                  refine ggM_17 X E hP inX9_rose_X9 lkX9_rose_1 dX9_rose_89 ?_
                  refine lv_iload_n hx hb dX9_rose_92 rfl (lv_at hl 2 rfl) ?_
                  obtain ⟨b26, hf⟩ := g_if hf
                  refine giM_17 X E hP b26 dX9_rose_93 ?_
                  refine lv_icmp_le (tgt := 102) hx hb dX9_rose_94 (by decide) (fun c27 => ?_) (fun c27 => ?_)
                  · have hf := g_ift hf c27
                    refine lv_iload_n hx hb dX9_rose_102 rfl (lv_at hl 3 rfl) ?_
                    refine lv_iconst (v := 2) hx hb dX9_rose_103 (by decide) ?_
                    refine lv_icmp_lt (tgt := 113) hx hb dX9_rose_104 (by decide) (fun c28 => ?_) (fun c28 => ?_)
                    · have hf := g_ift hf c28
                      exact bX9_rose_L113 X E _ _ _ _ _ _ _ _ hf hP hS (lv_sub hl [0, 1, 2, 3] rfl)
                    · have hf := g_iff hf c28
                      refine lv_iload_n hx hb dX9_rose_107 rfl (lv_at hl 3 rfl) ?_
                      refine lv_bipush (v := 40) hx hb dX9_rose_108 (by decide) ?_
                      refine lv_icmp_le (tgt := 118) hx hb dX9_rose_110 (by decide) (fun c31 => ?_) (fun c31 => ?_)
                      · have hf := g_ift hf c31
                        refine lv_iconst (v := 0) hx hb dX9_rose_118 (by decide) ?_
                        refine lv_istore (lv' := [(4, .int (0 : Int32)), (0, .ref (ga G 63)), (1, .int a1), (2, .int a2), (3, .int a3)]) hx hb dX9_rose_119 hl (by decide) rfl (fun ls hl => ?_)
                        refine lv_iload hx hb dX9_rose_121 (lv_at hl 0 rfl) ?_
                        refine lv_if_eq (tgt := 133) hx hb dX9_rose_123 (by decide) (fun _ => ?_) (fun z => absurd z (by decide))
                        refine lv_aload_n hx hb dX9_rose_133 rfl (lv_at hl 1 rfl) ?_
                        refine lv_iload_n hx hb dX9_rose_134 rfl (lv_at hl 2 rfl) ?_
                        refine lv_iload_n hx hb dX9_rose_135 rfl (lv_at hl 3 rfl) ?_
                        refine lv_iload_n hx hb dX9_rose_136 rfl (lv_at hl 4 rfl) ?_
                        refine lv_iconst (v := -1) hx hb dX9_rose_137 (by decide) ?_
                        obtain ⟨u32, h33, hf⟩ := g_bind hf
                        refine g_vi (rest := []) X E hP hS (tcX9_areAlike l G _ _ _ _ _ h33) (g_cwV X gX9_rose_X9_areAlike rfl hdX9_areAlike ⟨Nat.le_of_ble_eq_true rfl, Nat.le_of_ble_eq_true rfl⟩) (rcM_model E hP) rfl hl.1 rfl (Nat.le_of_ble_eq_true rfl) dX9_rose_138 ⟨Nat.le_refl _, Nat.le_refl _⟩ (fun H locs hP hS => ?_)
                        refine lv_if_eq (tgt := 146) hx hb dX9_rose_141 (by decide) (fun c34 => ?_) (fun c34 => ?_)
                        · have hf := g_ift hf c34
                          refine lv_iconst (v := 0) hx hb dX9_rose_146 (by decide) ?_
                          refine lv_istore (lv' := [(5, .int (0 : Int32)), (4, .int (0 : Int32)), (0, .ref (ga G 63)), (1, .int a1), (2, .int a2), (3, .int a3)]) hx hb dX9_rose_147 hl (by decide) rfl (fun ls hl => ?_)
                          exact bX9_rose_149 X E gFuel _ _ _ _ _ _ _ _ _ hf hP hS (lv_sub hl [2, 3, 4, 5, 0] rfl)
                        · have hf := g_iff hf c34
                          refine lv_iconst (v := -1) hx hb dX9_rose_144 (by decide) ?_
                          obtain rfl := g_some hf
                          exact g_ri X E hP hS dX9_rose_145
                      · have hf := g_iff hf c31
                        exact bX9_rose_L113 X E _ _ _ _ _ _ _ _ hf hP hS (lv_sub hl [0, 1, 2, 3] rfl)
                  · have hf := g_iff hf c27
                    exact bX9_rose_L97 X E _ _ _ _ _ _ _ _ hf hP hS (lv_sub hl [0, 1, 2, 3] rfl)
              · have hf := g_iff hf c21
                refine lv_bipush (v := -4) hx hb dX9_rose_72 (by decide) ?_
                refine lv_goto (tgt := 119) hx hb dX9_rose_74 (by decide) ?_
                refine lv_istore (lv' := [(4, .int (-4 : Int32)), (0, .ref (ga G 63)), (1, .int a1), (2, .int a2), (3, .int a3)]) hx hb dX9_rose_119 hl (by decide) rfl (fun ls hl => ?_)
                refine lv_iload hx hb dX9_rose_121 (lv_at hl 0 rfl) ?_
                refine lv_if_eq (tgt := 133) hx hb dX9_rose_123 (by decide) (fun z => absurd z (by decide)) (fun _ => ?_)
                refine lv_aload_n hx hb dX9_rose_126 rfl (lv_at hl 1 rfl) ?_
                refine lv_iload hx hb dX9_rose_127 (lv_at hl 0 rfl) ?_
                obtain ⟨u39, h40, hf⟩ := g_bind hf
                refine g_vi (rest := []) X E hP hS (tcX9_noTen l G _ _ h40) (g_cwV X gX9_rose_X9_noTen rfl hdX9_noTen ⟨Nat.le_of_ble_eq_true rfl, Nat.le_of_ble_eq_true rfl⟩) (rcM_model E hP) rfl hl.1 rfl (Nat.le_of_ble_eq_true rfl) dX9_rose_129 ⟨Nat.le_refl _, Nat.le_refl _⟩ (fun H locs hP hS => ?_)
                obtain rfl := g_some hf
                exact g_ri X E hP hS dX9_rose_132
            · have hf := g_ift hf c20
              exact bX9_rose_L63 X E _ _ _ _ _ _ _ _ hf hP hS (lv_sub hl [0, 1, 2, 3] rfl)
        · have hf := g_ift hf c14
          exact bX9_rose_L40 X E _ _ _ _ _ _ _ _ hf hP hS (lv_sub hl [0, 1, 2, 3] rfl)
    · have hf := g_ift hf c8
      exact bX9_rose_L16 X E _ _ _ _ _ _ _ _ hf hP hS (lv_sub hl [0, 1, 2, 3] rfl)
theorem lkX9_crooked_0 : Cond.fieldLink RX9 91 RX9 "many" "I" ∈ wsX9_crooked := by decide +kernel
theorem lkX9_crooked_1 : Cond.fieldLink RX9 44 RX9 "holder" "[I" ∈ wsX9_crooked := by decide +kernel
theorem inX9_crooked_X9 : ∀ w ∈ wsX90, w ∈ wsX9_crooked := by decide +kernel
def fX9_crooked_42 : Nat → GS → Int32 → Int32 → Int32 → Option Int32
  | 0, _, _, _, _ => none
  | fu + 1, S, v4, v5, v6 =>
    if (S.1 0) ≤ v6 then
      some v5
    else
      if v6 < 0 ∨ 16 ≤ (v6).toNatClampNeg then none else
      if (S.2.2.1 13 (v6).toNatClampNeg) = v4 then
        (fX9_rise S v6).bind fun u12 =>
        fX9_crooked_42 fu S v4 (v5 + u12) (v6 + 1)
      else
        fX9_crooked_42 fu S v4 v5 (v6 + 1)
set_option maxHeartbeats 4000000 in
set_option maxRecDepth 100000 in
theorem bX9_crooked_42 {p : Program} {l : Launch} {e : Env} {s : State} {m : MethodId} {args : Array Value} {below : List Frame} {meth : Method} {c : Code} {Q : State → Prop} {G : GP} (X : GX p s m meth c args cX9_crooked 7 (some .int) wsX9_crooked RX9) (E : gE WM G s) {v1 : Int32} {v2 : Int32} {v3 : Int32} : ∀ (fu : Nat) (S : GS) (v4 : Int32) (v5 : Int32) (v6 : Int32) (R : Int32) (H : Heap) (locs : List Loc) (ls : Array Slot) (_ : fX9_crooked_42 fu S v4 v5 v6 = some R) (_ : va_P (gD G) vwCl (WM G S ++ gF G) H) (_ : va_S (gA G) s.heap H locs) (_ : lv_has ls 7 [(0, .ref (ga G 63)), (1, .int v1), (2, .int v2), (3, .int v3), (4, .int v4), (5, .int v5), (6, .int v6)]) (_ : ∀ (H : Heap) (locs : List Loc) (ls : Array Slot), va_P (gD G) vwCl (WM G S ++ gF G) H → va_S (gA G) s.heap H locs → lv_has ls 7 [(0, .ref (ga G 63)), (1, .int v1), (2, .int v2), (3, .int v3), (4, .int v4), (5, .int R)] → W p l e (gR 3 64) s m args below meth c H locs 0 0 Q (F0 m 80 ls [])), W p l e (gR 3 64) s m args below meth c H locs 0 0 Q (F0 m 42 ls []) := by
  obtain ⟨hx, hb, -, -, hown, hts, -⟩ := id X
  intro fu
  induction fu with
  | zero =>
    intro S v4 v5 v6 R H locs ls hf
    cases (show (none : Option Int32) = some R from hf)
  | succ fu ih =>
    intro S v4 v5 v6 R H locs ls hf hP hS hl kk
    rw [fX9_crooked_42] at hf
    refine lv_iload hx hb dX9_crooked_42 (lv_at hl 6 rfl) ?_
    refine lv_aload_n hx hb dX9_crooked_44 rfl (lv_at hl 0 rfl) ?_
    refine ggM_0 X E hP inX9_crooked_X9 lkX9_crooked_0 dX9_crooked_45 ?_
    refine lv_icmp_ge (tgt := 80) hx hb dX9_crooked_48 (by decide) (fun c9 => ?_) (fun c9 => ?_)
    · have hf := g_ift hf c9
      obtain rfl := g_some hf
      exact kk _ _ _ hP hS (lv_sub hl [0, 1, 2, 3, 4, 5] rfl)
    · have hf := g_iff hf c9
      refine lv_aload_n hx hb dX9_crooked_51 rfl (lv_at hl 0 rfl) ?_
      refine ggM_13 X E hP inX9_crooked_X9 lkX9_crooked_1 dX9_crooked_52 ?_
      refine lv_iload hx hb dX9_crooked_55 (lv_at hl 6 rfl) ?_
      obtain ⟨b10, hf⟩ := g_if hf
      refine giM_13 X E hP b10 dX9_crooked_57 ?_
      refine lv_iload hx hb dX9_crooked_58 (lv_at hl 4 rfl) ?_
      refine lv_icmp_ne (tgt := 74) hx hb dX9_crooked_60 (by decide) (fun c11 => ?_) (fun c11 => ?_)
      · have hf := g_iff hf c11
        refine lv_iinc (v := (v6 + 1)) (lv' := [(6, .int (v6 + 1)), (0, .ref (ga G 63)), (1, .int v1), (2, .int v2), (3, .int v3), (4, .int v4), (5, .int v5)]) hx hb dX9_crooked_74 hl (k := 6) rfl rfl (by decide) rfl (fun ls hl => ?_)
        refine lv_goto (tgt := 42) hx hb dX9_crooked_77 (by decide) ?_
        exact ih _ _ _ _ _ _ _ _ hf hP hS (lv_sub hl [1, 2, 3, 4, 5, 6, 0] rfl) kk
      · have hf := g_ift hf c11
        refine lv_iload hx hb dX9_crooked_63 (lv_at hl 5 rfl) ?_
        refine lv_aload_n hx hb dX9_crooked_65 rfl (lv_at hl 0 rfl) ?_
        refine lv_iload hx hb dX9_crooked_66 (lv_at hl 6 rfl) ?_
        obtain ⟨u12, h13, hf⟩ := g_bind hf
        refine g_vi (rest := [.int v5]) X E hP hS (tcX9_rise l G _ _ h13) (g_cwV X gX9_crooked_X9_rise rfl hdX9_rise ⟨Nat.le_of_ble_eq_true rfl, Nat.le_of_ble_eq_true rfl⟩) (rcM_model E hP) rfl hl.1 rfl (Nat.le_of_ble_eq_true rfl) dX9_crooked_68 ⟨Nat.le_refl _, Nat.le_refl _⟩ (fun H locs hP hS => ?_)
        refine lv_iadd hx hb dX9_crooked_71 ?_
        refine lv_istore (lv' := [(5, .int (v5 + u12)), (0, .ref (ga G 63)), (1, .int v1), (2, .int v2), (3, .int v3), (4, .int v4), (6, .int v6)]) hx hb dX9_crooked_72 hl (by decide) rfl (fun ls hl => ?_)
        refine lv_iinc (v := (v6 + 1)) (lv' := [(6, .int (v6 + 1)), (5, .int (v5 + u12)), (0, .ref (ga G 63)), (1, .int v1), (2, .int v2), (3, .int v3), (4, .int v4)]) hx hb dX9_crooked_74 hl (k := 6) rfl rfl (by decide) rfl (fun ls hl => ?_)
        refine lv_goto (tgt := 42) hx hb dX9_crooked_77 (by decide) ?_
        exact ih _ _ _ _ _ _ _ _ hf hP hS (lv_sub hl [2, 3, 4, 5, 6, 1, 0] rfl) kk
def fX9_crooked_30 : Nat → GS → Int32 → Int32 → Int32 → Option (Int32 × Int32)
  | 0, _, _, _, _ => none
  | fu + 1, S, v2, v3, v4 =>
    if (4 : Int32) ≤ v4 then
      some (v2, v3)
    else
      (fX9_crooked_42 gFuel S v4 (0 : Int32) (0 : Int32)).bind fun u14 =>
      if v4 ≤ 0 then
        fX9_crooked_30 fu S v4 u14 (v4 + 1)
      else
        (fX9_abs S u14).bind fun u17 =>
        (fX9_abs S v3).bind fun u19 =>
        if u19 < u17 then
          fX9_crooked_30 fu S v4 u14 (v4 + 1)
        else
          fX9_crooked_30 fu S v2 v3 (v4 + 1)
set_option maxHeartbeats 4000000 in
set_option maxRecDepth 100000 in
theorem bX9_crooked_30 {p : Program} {l : Launch} {e : Env} {s : State} {m : MethodId} {args : Array Value} {below : List Frame} {meth : Method} {c : Code} {Q : State → Prop} {G : GP} (X : GX p s m meth c args cX9_crooked 7 (some .int) wsX9_crooked RX9) (E : gE WM G s) {v1 : Int32} : ∀ (fu : Nat) (S : GS) (v2 : Int32) (v3 : Int32) (v4 : Int32) (R : (Int32 × Int32)) (H : Heap) (locs : List Loc) (ls : Array Slot) (_ : fX9_crooked_30 fu S v2 v3 v4 = some R) (_ : va_P (gD G) vwCl (WM G S ++ gF G) H) (_ : va_S (gA G) s.heap H locs) (_ : lv_has ls 7 [(0, .ref (ga G 63)), (1, .int v1), (2, .int v2), (3, .int v3), (4, .int v4)]) (_ : ∀ (H : Heap) (locs : List Loc) (ls : Array Slot), va_P (gD G) vwCl (WM G S ++ gF G) H → va_S (gA G) s.heap H locs → lv_has ls 7 [(1, .int v1), (2, .int R.1), (3, .int R.2)] → W p l e (gR 3 64) s m args below meth c H locs 0 0 Q (F0 m 114 ls [])), W p l e (gR 3 64) s m args below meth c H locs 0 0 Q (F0 m 30 ls []) := by
  obtain ⟨hx, hb, -, -, hown, hts, -⟩ := id X
  intro fu
  induction fu with
  | zero =>
    intro S v2 v3 v4 R H locs ls hf
    cases (show (none : Option (Int32 × Int32)) = some R from hf)
  | succ fu ih =>
    intro S v2 v3 v4 R H locs ls hf hP hS hl kk
    rw [fX9_crooked_30] at hf
    refine lv_iload hx hb dX9_crooked_30 (lv_at hl 4 rfl) ?_
    refine lv_iconst (v := 4) hx hb dX9_crooked_32 (by decide) ?_
    refine lv_icmp_ge (tgt := 114) hx hb dX9_crooked_33 (by decide) (fun c8 => ?_) (fun c8 => ?_)
    · have hf := g_ift hf c8
      obtain rfl := g_some hf
      exact kk _ _ _ hP hS (lv_sub hl [1, 2, 3] rfl)
    · have hf := g_iff hf c8
      refine lv_iconst (v := 0) hx hb dX9_crooked_36 (by decide) ?_
      refine lv_istore (lv' := [(5, .int (0 : Int32)), (0, .ref (ga G 63)), (1, .int v1), (2, .int v2), (3, .int v3), (4, .int v4)]) hx hb dX9_crooked_37 hl (by decide) rfl (fun ls hl => ?_)
      refine lv_iconst (v := 0) hx hb dX9_crooked_39 (by decide) ?_
      refine lv_istore (lv' := [(6, .int (0 : Int32)), (5, .int (0 : Int32)), (0, .ref (ga G 63)), (1, .int v1), (2, .int v2), (3, .int v3), (4, .int v4)]) hx hb dX9_crooked_40 hl (by decide) rfl (fun ls hl => ?_)
      obtain ⟨u14, h15, hf⟩ := g_bind hf
      refine bX9_crooked_42 X E gFuel _ _ _ _ u14 _ _ _ h15 hP hS (lv_sub hl [2, 3, 4, 5, 6, 1, 0] rfl) (fun H locs ls hP hS hl => ?_)
      have hl : lv_has ls 7 [(0, .ref (ga G 63)), (1, .int v1), (2, .int v2), (3, .int v3), (4, .int v4), (5, .int u14)] := hl
      refine lv_iload hx hb dX9_crooked_80 (lv_at hl 4 rfl) ?_
      refine lv_if_le (tgt := 102) hx hb dX9_crooked_82 (by decide) (fun c16 => ?_) (fun c16 => ?_)
      · have hf := g_ift hf c16
        refine lv_iload hx hb dX9_crooked_102 (lv_at hl 4 rfl) ?_
        refine lv_istore_n (lv' := [(2, .int v4), (0, .ref (ga G 63)), (1, .int v1), (3, .int v3), (4, .int v4), (5, .int u14)]) hx hb dX9_crooked_104 rfl hl (by decide) rfl (fun ls hl => ?_)
        refine lv_iload hx hb dX9_crooked_105 (lv_at hl 5 rfl) ?_
        refine lv_istore_n (lv' := [(3, .int u14), (2, .int v4), (0, .ref (ga G 63)), (1, .int v1), (4, .int v4), (5, .int u14)]) hx hb dX9_crooked_107 rfl hl (by decide) rfl (fun ls hl => ?_)
        refine lv_iinc (v := (v4 + 1)) (lv' := [(4, .int (v4 + 1)), (3, .int u14), (2, .int v4), (0, .ref (ga G 63)), (1, .int v1), (5, .int u14)]) hx hb dX9_crooked_108 hl (k := 4) rfl rfl (by decide) rfl (fun ls hl => ?_)
        refine lv_goto (tgt := 30) hx hb dX9_crooked_111 (by decide) ?_
        exact ih _ _ _ _ _ _ _ _ hf hP hS (lv_sub hl [3, 4, 2, 1, 0] rfl) kk
      · have hf := g_iff hf c16
        refine lv_aload_n hx hb dX9_crooked_85 rfl (lv_at hl 0 rfl) ?_
        refine lv_iload hx hb dX9_crooked_86 (lv_at hl 5 rfl) ?_
        obtain ⟨u17, h18, hf⟩ := g_bind hf
        refine g_vi (rest := []) X E hP hS (tcX9_abs l G _ _ h18) (g_cwV X gX9_crooked_X9_abs rfl hdX9_abs ⟨Nat.le_of_ble_eq_true rfl, Nat.le_of_ble_eq_true rfl⟩) (rcM_model E hP) rfl hl.1 rfl (Nat.le_of_ble_eq_true rfl) dX9_crooked_88 ⟨Nat.le_refl _, Nat.le_refl _⟩ (fun H locs hP hS => ?_)
        refine lv_aload_n hx hb dX9_crooked_91 rfl (lv_at hl 0 rfl) ?_
        refine lv_iload_n hx hb dX9_crooked_92 rfl (lv_at hl 3 rfl) ?_
        obtain ⟨u19, h20, hf⟩ := g_bind hf
        refine g_vi (rest := [.int u17]) X E hP hS (tcX9_abs l G _ _ h20) (g_cwV X gX9_crooked_X9_abs rfl hdX9_abs ⟨Nat.le_of_ble_eq_true rfl, Nat.le_of_ble_eq_true rfl⟩) (rcM_model E hP) rfl hl.1 rfl (Nat.le_of_ble_eq_true rfl) dX9_crooked_93 ⟨Nat.le_refl _, Nat.le_refl _⟩ (fun H locs hP hS => ?_)
        refine lv_icmp_gt (tgt := 102) hx hb dX9_crooked_96 (by decide) (fun c21 => ?_) (fun c21 => ?_)
        · have hf := g_ift hf c21
          refine lv_iload hx hb dX9_crooked_102 (lv_at hl 4 rfl) ?_
          refine lv_istore_n (lv' := [(2, .int v4), (0, .ref (ga G 63)), (1, .int v1), (3, .int v3), (4, .int v4), (5, .int u14)]) hx hb dX9_crooked_104 rfl hl (by decide) rfl (fun ls hl => ?_)
          refine lv_iload hx hb dX9_crooked_105 (lv_at hl 5 rfl) ?_
          refine lv_istore_n (lv' := [(3, .int u14), (2, .int v4), (0, .ref (ga G 63)), (1, .int v1), (4, .int v4), (5, .int u14)]) hx hb dX9_crooked_107 rfl hl (by decide) rfl (fun ls hl => ?_)
          refine lv_iinc (v := (v4 + 1)) (lv' := [(4, .int (v4 + 1)), (3, .int u14), (2, .int v4), (0, .ref (ga G 63)), (1, .int v1), (5, .int u14)]) hx hb dX9_crooked_108 hl (k := 4) rfl rfl (by decide) rfl (fun ls hl => ?_)
          refine lv_goto (tgt := 30) hx hb dX9_crooked_111 (by decide) ?_
          exact ih _ _ _ _ _ _ _ _ hf hP hS (lv_sub hl [3, 4, 2, 1, 0] rfl) kk
        · have hf := g_iff hf c21
          refine lv_goto (tgt := 108) hx hb dX9_crooked_99 (by decide) ?_
          refine lv_iinc (v := (v4 + 1)) (lv' := [(4, .int (v4 + 1)), (0, .ref (ga G 63)), (1, .int v1), (2, .int v2), (3, .int v3), (5, .int u14)]) hx hb dX9_crooked_108 hl (k := 4) rfl rfl (by decide) rfl (fun ls hl => ?_)
          refine lv_goto (tgt := 30) hx hb dX9_crooked_111 (by decide) ?_
          exact ih _ _ _ _ _ _ _ _ hf hP hS (lv_sub hl [1, 2, 3, 4, 0] rfl) kk
def fX9_crooked (S : GS) (a1 : Int32) : Option (Int32 × GS) :=
  if (S.1 0) = 0 then
    (fX9_noFar S (-5 : Int32)).bind fun u2 =>
    some (u2.1, u2.2)
  else
    if a1 < 0 then
      (fX9_noFar S (-5 : Int32)).bind fun u5 =>
      some (u5.1, u5.2)
    else
      if a1 ≤ (1 : Int32) then
        (fX9_crooked_30 gFuel S (0 : Int32) (0 : Int32) (0 : Int32)).bind fun u22 =>
        if a1 = 0 then
          some (u22.1, S)
        else
          some (u22.2, S)
      else
        (fX9_noFar S (-5 : Int32)).bind fun u25 =>
        some (u25.1, u25.2)
set_option maxHeartbeats 4000000 in
set_option maxRecDepth 100000 in
theorem tcX9_crooked (l : Launch) (G : GP) (S : GS) (a1 : Int32) {R : (Int32 × GS)} (hf : fX9_crooked S a1 = some R) : CI l yX9_crooked wsX9_crooked 3 64 [.ref (ga G 63), .int a1] WM G S R.1 R.2 := by
  refine g_met RX9 (cc := cX9_crooked) (nL := 7) (ret := (some .int)) (by decide) rfl rfl (Nat.le_of_ble_eq_true rfl) ?_
  intro p e s m below meth c ls X E hP hS hl
  have hl : lv_has ls 7 [(0, .ref (ga G 63)), (1, .int a1)] := hl
  obtain ⟨hx, hb, -, -, hown, hts, -⟩ := id X
  rw [fX9_crooked] at hf
  refine lv_aload_n hx hb dX9_crooked_0 rfl (lv_at hl 0 rfl) ?_
  refine ggM_0 X E hP inX9_crooked_X9 lkX9_crooked_0 dX9_crooked_1 ?_
  refine lv_if_eq (tgt := 16) hx hb dX9_crooked_4 (by decide) (fun c1 => ?_) (fun c1 => ?_)
  · have hf := g_ift hf c1
    refine lv_aload_n hx hb dX9_crooked_16 rfl (lv_at hl 0 rfl) ?_
    refine lv_bipush (v := -5) hx hb dX9_crooked_17 (by decide) ?_
    obtain ⟨u2, h3, hf⟩ := g_bind hf
    refine g_vi (rest := []) X E hP hS (tcX9_noFar l G _ _ h3) (g_cwV X gX9_crooked_X9_noFar rfl hdX9_noFar ⟨Nat.le_of_ble_eq_true rfl, Nat.le_of_ble_eq_true rfl⟩) (rcM_model E hP) rfl hl.1 rfl (Nat.le_of_ble_eq_true rfl) dX9_crooked_19 ⟨Nat.le_refl _, Nat.le_refl _⟩ (fun H locs hP hS => ?_)
    obtain rfl := g_some hf
    exact g_ri X E hP hS dX9_crooked_22
  · have hf := g_iff hf c1
    refine lv_iload_n hx hb dX9_crooked_7 rfl (lv_at hl 1 rfl) ?_
    refine lv_if_lt (tgt := 16) hx hb dX9_crooked_8 (by decide) (fun c4 => ?_) (fun c4 => ?_)
    · have hf := g_ift hf c4
      refine lv_aload_n hx hb dX9_crooked_16 rfl (lv_at hl 0 rfl) ?_
      refine lv_bipush (v := -5) hx hb dX9_crooked_17 (by decide) ?_
      obtain ⟨u5, h6, hf⟩ := g_bind hf
      refine g_vi (rest := []) X E hP hS (tcX9_noFar l G _ _ h6) (g_cwV X gX9_crooked_X9_noFar rfl hdX9_noFar ⟨Nat.le_of_ble_eq_true rfl, Nat.le_of_ble_eq_true rfl⟩) (rcM_model E hP) rfl hl.1 rfl (Nat.le_of_ble_eq_true rfl) dX9_crooked_19 ⟨Nat.le_refl _, Nat.le_refl _⟩ (fun H locs hP hS => ?_)
      obtain rfl := g_some hf
      exact g_ri X E hP hS dX9_crooked_22
    · have hf := g_iff hf c4
      refine lv_iload_n hx hb dX9_crooked_11 rfl (lv_at hl 1 rfl) ?_
      refine lv_iconst (v := 1) hx hb dX9_crooked_12 (by decide) ?_
      refine lv_icmp_le (tgt := 23) hx hb dX9_crooked_13 (by decide) (fun c7 => ?_) (fun c7 => ?_)
      · have hf := g_ift hf c7
        refine lv_iconst (v := 0) hx hb dX9_crooked_23 (by decide) ?_
        refine lv_istore_n (lv' := [(2, .int (0 : Int32)), (0, .ref (ga G 63)), (1, .int a1)]) hx hb dX9_crooked_24 rfl hl (by decide) rfl (fun ls hl => ?_)
        refine lv_iconst (v := 0) hx hb dX9_crooked_25 (by decide) ?_
        refine lv_istore_n (lv' := [(3, .int (0 : Int32)), (2, .int (0 : Int32)), (0, .ref (ga G 63)), (1, .int a1)]) hx hb dX9_crooked_26 rfl hl (by decide) rfl (fun ls hl => ?_)
        refine lv_iconst (v := 0) hx hb dX9_crooked_27 (by decide) ?_
        refine lv_istore (lv' := [(4, .int (0 : Int32)), (3, .int (0 : Int32)), (2, .int (0 : Int32)), (0, .ref (ga G 63)), (1, .int a1)]) hx hb dX9_crooked_28 hl (by decide) rfl (fun ls hl => ?_)
        obtain ⟨u22, h23, hf⟩ := g_bind hf
        refine bX9_crooked_30 X E gFuel _ _ _ _ u22 _ _ _ h23 hP hS (lv_sub hl [3, 4, 2, 1, 0] rfl) (fun H locs ls hP hS hl => ?_)
        have hl : lv_has ls 7 [(1, .int a1), (2, .int u22.1), (3, .int u22.2)] := hl
        refine lv_iload_n hx hb dX9_crooked_114 rfl (lv_at hl 0 rfl) ?_
        refine lv_if_ne (tgt := 122) hx hb dX9_crooked_115 (by decide) (fun c24 => ?_) (fun c24 => ?_)
        · have hf := g_iff hf c24
          refine lv_iload_n hx hb dX9_crooked_122 rfl (lv_at hl 2 rfl) ?_
          obtain rfl := g_some hf
          exact g_ri X E hP hS dX9_crooked_123
        · have hf := g_ift hf c24
          refine lv_iload_n hx hb dX9_crooked_118 rfl (lv_at hl 1 rfl) ?_
          refine lv_goto (tgt := 123) hx hb dX9_crooked_119 (by decide) ?_
          obtain rfl := g_some hf
          exact g_ri X E hP hS dX9_crooked_123
      · have hf := g_iff hf c7
        refine lv_aload_n hx hb dX9_crooked_16 rfl (lv_at hl 0 rfl) ?_
        refine lv_bipush (v := -5) hx hb dX9_crooked_17 (by decide) ?_
        obtain ⟨u25, h26, hf⟩ := g_bind hf
        refine g_vi (rest := []) X E hP hS (tcX9_noFar l G _ _ h26) (g_cwV X gX9_crooked_X9_noFar rfl hdX9_noFar ⟨Nat.le_of_ble_eq_true rfl, Nat.le_of_ble_eq_true rfl⟩) (rcM_model E hP) rfl hl.1 rfl (Nat.le_of_ble_eq_true rfl) dX9_crooked_19 ⟨Nat.le_refl _, Nat.le_refl _⟩ (fun H locs hP hS => ?_)
        obtain rfl := g_some hf
        exact g_ri X E hP hS dX9_crooked_22
