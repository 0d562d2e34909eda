theorem hdX9_abs : yX9_abs.cls = RX9 ∧ yX9_abs.cls ≠ "java/lang/invoke/MethodHandle" ∧ yX9_abs.cls ≠ "java/lang/invoke/VarHandle" ∧ (parseMethodDescriptor yX9_abs.desc).map (fun d => d.parameters.length) = some 1 := by decide +kernel
theorem hdX9_all : yX9_all.cls = RX9 ∧ yX9_all.cls ≠ "java/lang/invoke/MethodHandle" ∧ yX9_all.cls ≠ "java/lang/invoke/VarHandle" ∧ (parseMethodDescriptor yX9_all.desc).map (fun d => d.parameters.length) = some 2 := by decide +kernel
theorem hdX9_carries : yX9_carries.cls = RX9 ∧ yX9_carries.cls ≠ "java/lang/invoke/MethodHandle" ∧ yX9_carries.cls ≠ "java/lang/invoke/VarHandle" ∧ (parseMethodDescriptor yX9_carries.desc).map (fun d => d.parameters.length) = some 4 := by decide +kernel
theorem hdX9_isDigit : yX9_isDigit.cls = RX9 ∧ yX9_isDigit.cls ≠ "java/lang/invoke/MethodHandle" ∧ yX9_isDigit.cls ≠ "java/lang/invoke/VarHandle" ∧ (parseMethodDescriptor yX9_isDigit.desc).map (fun d => d.parameters.length) = some 0 := by decide +kernel
theorem hdX9_isSo : yX9_isSo.cls = RX9 ∧ yX9_isSo.cls ≠ "java/lang/invoke/MethodHandle" ∧ yX9_isSo.cls ≠ "java/lang/invoke/VarHandle" ∧ (parseMethodDescriptor yX9_isSo.desc).map (fun d => d.parameters.length) = some 2 := by decide +kernel
theorem hdX9_item : yX9_item.cls = RX9 ∧ yX9_item.cls ≠ "java/lang/invoke/MethodHandle" ∧ yX9_item.cls ≠ "java/lang/invoke/VarHandle" ∧ (parseMethodDescriptor yX9_item.desc).map (fun d => d.parameters.length) = some 0 := by decide +kernel
theorem hdX9_mayBe : yX9_mayBe.cls = RX9 ∧ yX9_mayBe.cls ≠ "java/lang/invoke/MethodHandle" ∧ yX9_mayBe.cls ≠ "java/lang/invoke/VarHandle" ∧ (parseMethodDescriptor yX9_mayBe.desc).map (fun d => d.parameters.length) = some 0 := by decide +kernel
theorem hdX9_offAll : yX9_offAll.cls = RX9 ∧ yX9_offAll.cls ≠ "java/lang/invoke/MethodHandle" ∧ yX9_offAll.cls ≠ "java/lang/invoke/VarHandle" ∧ (parseMethodDescriptor yX9_offAll.desc).map (fun d => d.parameters.length) = some 0 := by decide +kernel
theorem hdX9_reads : yX9_reads.cls = RX9 ∧ yX9_reads.cls ≠ "java/lang/invoke/MethodHandle" ∧ yX9_reads.cls ≠ "java/lang/invoke/VarHandle" ∧ (parseMethodDescriptor yX9_reads.desc).map (fun d => d.parameters.length) = some 0 := by decide +kernel
theorem hdX9_rises : yX9_rises.cls = RX9 ∧ yX9_rises.cls ≠ "java/lang/invoke/MethodHandle" ∧ yX9_rises.cls ≠ "java/lang/invoke/VarHandle" ∧ (parseMethodDescriptor yX9_rises.desc).map (fun d => d.parameters.length) = some 2 := by decide +kernel
theorem hdX9_slips : yX9_slips.cls = RX9 ∧ yX9_slips.cls ≠ "java/lang/invoke/MethodHandle" ∧ yX9_slips.cls ≠ "java/lang/invoke/VarHandle" ∧ (parseMethodDescriptor yX9_slips.desc).map (fun d => d.parameters.length) = some 4 := by decide +kernel
theorem hdX9_stands : yX9_stands.cls = RX9 ∧ yX9_stands.cls ≠ "java/lang/invoke/MethodHandle" ∧ yX9_stands.cls ≠ "java/lang/invoke/VarHandle" ∧ (parseMethodDescriptor yX9_stands.desc).map (fun d => d.parameters.length) = some 1 := by decide +kernel
theorem hdX9_wanted : yX9_wanted.cls = RX9 ∧ yX9_wanted.cls ≠ "java/lang/invoke/MethodHandle" ∧ yX9_wanted.cls ≠ "java/lang/invoke/VarHandle" ∧ (parseMethodDescriptor yX9_wanted.desc).map (fun d => d.parameters.length) = some 1 := by decide +kernel
theorem hdX9_weights : yX9_weights.cls = RX9 ∧ yX9_weights.cls ≠ "java/lang/invoke/MethodHandle" ∧ yX9_weights.cls ≠ "java/lang/invoke/VarHandle" ∧ (parseMethodDescriptor yX9_weights.desc).map (fun d => d.parameters.length) = some 2 := by decide +kernel
theorem hdX9_word : yX9_word.cls = RX9 ∧ yX9_word.cls ≠ "java/lang/invoke/MethodHandle" ∧ yX9_word.cls ≠ "java/lang/invoke/VarHandle" ∧ (parseMethodDescriptor yX9_word.desc).map (fun d => d.parameters.length) = some 0 := by decide +kernel
theorem hdX9_wrong : yX9_wrong.cls = RX9 ∧ yX9_wrong.cls ≠ "java/lang/invoke/MethodHandle" ∧ yX9_wrong.cls ≠ "java/lang/invoke/VarHandle" ∧ (parseMethodDescriptor yX9_wrong.desc).map (fun d => d.parameters.length) = some 1 := by decide +kernel
def fX9_carries_10_29_3 : Nat → GS → Int32 → Int32 → Int32 → Option GS
  | 0, _, _, _, _ => none
  | fu + 1, S, v3, v4, v5 =>
    if (16 : Int32) ≤ v5 then
      some S
    else
      if v4 = 0 then
        if v5 < 0 ∨ 16 ≤ (v5).toNatClampNeg then none else
        if (v3 + v5) < 0 ∨ 140 ≤ (v3 + v5).toNatClampNeg then none else
        fX9_carries_10_29_3 fu (gU3 S 29 (v3 + v5).toNatClampNeg (S.2.2.1 10 (v5).toNatClampNeg)) v3 v4 (v5 + 1)
      else
        if (v3 + v5) < 0 ∨ 140 ≤ (v3 + v5).toNatClampNeg then none else
        if v5 < 0 ∨ 16 ≤ (v5).toNatClampNeg then none else
        fX9_carries_10_29_3 fu (gU3 S 10 (v5).toNatClampNeg (S.2.2.1 29 (v3 + v5).toNatClampNeg)) v3 v4 (v5 + 1)
set_option maxHeartbeats 4000000 in
set_option maxRecDepth 100000 in
theorem bX9_carries_10_29_3 {p : Program} {l : Launch} {e : Env} {s : State} {m : MethodId} {args : Array Value} {below : List Frame} {meth : Method} {c : Code} {Q : State → Prop} {G : GP} (X : GX p s m meth c args cX9_carries 6 (some .int) wsX9_carries RX9) (E : gE WM G s)  : ∀ (fu : Nat) (S : GS) (v3 : Int32) (v4 : Int32) (v5 : Int32) (R : GS) (H : Heap) (locs : List Loc) (ls : Array Slot) (_ : fX9_carries_10_29_3 fu S v3 v4 v5 = some R) (_ : va_P (gD G) vwCl (WM G S ++ gF G) H) (_ : va_S (gA G) s.heap H locs) (_ : lv_has ls 6 [(1, .ref (ga G 10)), (2, .ref (ga G 29)), (3, .int v3), (4, .int v4), (5, .int v5)]) (_ : ∀ (H : Heap) (locs : List Loc) (ls : Array Slot), va_P (gD G) vwCl (WM G R ++ gF G) H → va_S (gA G) s.heap H locs → lv_has ls 6 [(3, .int v3)] → W p l e (gR 0 0) s m args below meth c H locs 0 0 Q (F0 m 44 ls [])), W p l e (gR 0 0) s m args below meth c H locs 0 0 Q (F0 m 3 ls []) := by
  obtain ⟨hx, hb, -, -, hown, hts, -⟩ := id X
  intro fu
  induction fu with
  | zero =>
    intro S v3 v4 v5 R H locs ls hf
    cases (show (none : Option GS) = some R from hf)
  | succ fu ih =>
    intro S v3 v4 v5 R H locs ls hf hP hS hl kk
    rw [fX9_carries_10_29_3] at hf
    refine lv_iload hx hb dX9_carries_3 (lv_at hl 4 rfl) ?_
    refine lv_bipush (v := 16) hx hb dX9_carries_5 (by decide) ?_
    refine lv_icmp_ge (tgt := 44) hx hb dX9_carries_7 (by decide) (fun c1 => ?_) (fun c1 => ?_)
    · have hf := g_ift hf c1
      obtain rfl := g_some hf
      exact kk _ _ _ hP hS (lv_sub hl [2] rfl)
    · have hf := g_iff hf c1
      refine lv_iload hx hb dX9_carries_10 (lv_at hl 3 rfl) ?_
      refine lv_if_eq (tgt := 28) hx hb dX9_carries_12 (by decide) (fun c2 => ?_) (fun c2 => ?_)
      · have hf := g_ift hf c2
        refine lv_aload_n hx hb dX9_carries_28 rfl (lv_at hl 1 rfl) ?_
        refine lv_iload_n hx hb dX9_carries_29 rfl (lv_at hl 2 rfl) ?_
        refine lv_iload hx hb dX9_carries_30 (lv_at hl 4 rfl) ?_
        refine lv_iadd hx hb dX9_carries_32 ?_
        refine lv_aload_n hx hb dX9_carries_33 rfl (lv_at hl 0 rfl) ?_
        refine lv_iload hx hb dX9_carries_34 (lv_at hl 4 rfl) ?_
        obtain ⟨b3, hf⟩ := g_if hf
        refine giM_10 X E hP b3 dX9_carries_36 ?_
        obtain ⟨b4, hf⟩ := g_if hf
        refine gsM_29 X E hP hS b4 dX9_carries_37 (fun H locs hP hS => ?_)
        refine lv_iinc (v := (v5 + 1)) (lv' := [(5, .int (v5 + 1)), (1, .ref (ga G 10)), (2, .ref (ga G 29)), (3, .int v3), (4, .int v4)]) hx hb dX9_carries_38 hl (k := 4) rfl rfl (by decide) rfl (fun ls hl => ?_)
        refine lv_goto (tgt := 3) hx hb dX9_carries_41 (by decide) ?_
        exact ih _ _ _ _ _ _ _ _ hf hP hS (lv_sub hl [1, 2, 3, 4, 0] rfl) kk
      · have hf := g_iff hf c2
        refine lv_aload_n hx hb dX9_carries_15 rfl (lv_at hl 0 rfl) ?_
        refine lv_iload hx hb dX9_carries_16 (lv_at hl 4 rfl) ?_
        refine lv_aload_n hx hb dX9_carries_18 rfl (lv_at hl 1 rfl) ?_
        refine lv_iload_n hx hb dX9_carries_19 rfl (lv_at hl 2 rfl) ?_
        refine lv_iload hx hb dX9_carries_20 (lv_at hl 4 rfl) ?_
        refine lv_iadd hx hb dX9_carries_22 ?_
        obtain ⟨b5, hf⟩ := g_if hf
        refine giM_29 X E hP b5 dX9_carries_23 ?_
        obtain ⟨b6, hf⟩ := g_if hf
        refine gsM_10 X E hP hS b6 dX9_carries_24 (fun H locs hP hS => ?_)
        refine lv_goto (tgt := 38) hx hb dX9_carries_25 (by decide) ?_
        refine lv_iinc (v := (v5 + 1)) (lv' := [(5, .int (v5 + 1)), (1, .ref (ga G 10)), (2, .ref (ga G 29)), (3, .int v3), (4, .int v4)]) hx hb dX9_carries_38 hl (k := 4) rfl rfl (by decide) rfl (fun ls hl => ?_)
        refine lv_goto (tgt := 3) hx hb dX9_carries_41 (by decide) ?_
        exact ih _ _ _ _ _ _ _ _ hf hP hS (lv_sub hl [1, 2, 3, 4, 0] rfl) kk
def fX9_carries_10_29 (S : GS) (a1 : Int32) (a2 : Int32) : Option (Int32 × GS) :=
  (fX9_carries_10_29_3 gFuel S a1 a2 (0 : Int32)).bind fun u7 =>
  some ((a1 + (16 : Int32)), u7)
set_option maxHeartbeats 4000000 in
set_option maxRecDepth 100000 in
theorem tcX9_carries_10_29 (l : Launch) (G : GP) (S : GS) (a1 : Int32) (a2 : Int32) {R : (Int32 × GS)} (hf : fX9_carries_10_29 S a1 a2 = some R) : CI l yX9_carries wsX9_carries 0 0 [.ref (ga G 63), .ref (ga G 10), .ref (ga G 29), .int a1, .int a2] WM G S R.1 R.2 := by
  refine g_met RX9 (cc := cX9_carries) (nL := 6) (ret := (some .int)) (by decide) rfl rfl (Nat.le_of_ble_eq_true rfl) ?_
  intro p e s m below meth c ls X E hP hS hl
  have hl : lv_has ls 6 [(0, .ref (ga G 63)), (1, .ref (ga G 10)), (2, .ref (ga G 29)), (3, .int a1), (4, .int a2)] := hl
  obtain ⟨hx, hb, -, -, hown, hts, -⟩ := id X
  rw [fX9_carries_10_29] at hf
  refine lv_iconst (v := 0) hx hb dX9_carries_0 (by decide) ?_
  refine lv_istore (lv' := [(5, .int (0 : Int32)), (0, .ref (ga G 63)), (1, .ref (ga G 10)), (2, .ref (ga G 29)), (3, .int a1), (4, .int a2)]) hx hb dX9_carries_1 hl (by decide) rfl (fun ls hl => ?_)
  obtain ⟨u7, h8, hf⟩ := g_bind hf
  refine bX9_carries_10_29_3 X E gFuel _ _ _ _ u7 _ _ _ h8 hP hS (lv_sub hl [2, 3, 4, 5, 0] rfl) (fun H locs ls hP hS hl => ?_)
  have hl : lv_has ls 6 [(3, .int a1)] := hl
  have hP : va_P (gD G) vwCl (WM G u7 ++ gF G) H := hP
  refine lv_iload_n hx hb dX9_carries_44 rfl (lv_at hl 0 rfl) ?_
  refine lv_bipush (v := 16) hx hb dX9_carries_45 (by decide) ?_
  refine lv_iadd hx hb dX9_carries_47 ?_
  obtain rfl := g_some hf
  exact g_ri X E hP hS dX9_carries_48
def fX9_carries_11_29_3 : Nat → GS → Int32 → Int32 → Int32 → Option GS
  | 0, _, _, _, _ => none
  | fu + 1, S, v3, v4, v5 =>
    if (16 : Int32) ≤ v5 then
      some S
    else
      if v4 = 0 then
        if v5 < 0 ∨ 16 ≤ (v5).toNatClampNeg then none else
        if (v3 + v5) < 0 ∨ 140 ≤ (v3 + v5).toNatClampNeg then none else
        fX9_carries_11_29_3 fu (gU3 S 29 (v3 + v5).toNatClampNeg (S.2.2.1 11 (v5).toNatClampNeg)) v3 v4 (v5 + 1)
      else
        if (v3 + v5) < 0 ∨ 140 ≤ (v3 + v5).toNatClampNeg then none else
        if v5 < 0 ∨ 16 ≤ (v5).toNatClampNeg then none else
        fX9_carries_11_29_3 fu (gU3 S 11 (v5).toNatClampNeg (S.2.2.1 29 (v3 + v5).toNatClampNeg)) v3 v4 (v5 + 1)
set_option maxHeartbeats 4000000 in
set_option maxRecDepth 100000 in
theorem bX9_carries_11_29_3 {p : Program} {l : Launch} {e : Env} {s : State} {m : MethodId} {args : Array Value} {below : List Frame} {meth : Method} {c : Code} {Q : State → Prop} {G : GP} (X : GX p s m meth c args cX9_carries 6 (some .int) wsX9_carries RX9) (E : gE WM G s)  : ∀ (fu : Nat) (S : GS) (v3 : Int32) (v4 : Int32) (v5 : Int32) (R : GS) (H : Heap) (locs : List Loc) (ls : Array Slot) (_ : fX9_carries_11_29_3 fu S v3 v4 v5 = some R) (_ : va_P (gD G) vwCl (WM G S ++ gF G) H) (_ : va_S (gA G) s.heap H locs) (_ : lv_has ls 6 [(1, .ref (ga G 11)), (2, .ref (ga G 29)), (3, .int v3), (4, .int v4), (5, .int v5)]) (_ : ∀ (H : Heap) (locs : List Loc) (ls : Array Slot), va_P (gD G) vwCl (WM G R ++ gF G) H → va_S (gA G) s.heap H locs → lv_has ls 6 [(3, .int v3)] → W p l e (gR 0 0) s m args below meth c H locs 0 0 Q (F0 m 44 ls [])), W p l e (gR 0 0) s m args below meth c H locs 0 0 Q (F0 m 3 ls []) := by
  obtain ⟨hx, hb, -, -, hown, hts, -⟩ := id X
  intro fu
  induction fu with
  | zero =>
    intro S v3 v4 v5 R H locs ls hf
    cases (show (none : Option GS) = some R from hf)
  | succ fu ih =>
    intro S v3 v4 v5 R H locs ls hf hP hS hl kk
    rw [fX9_carries_11_29_3] at hf
    refine lv_iload hx hb dX9_carries_3 (lv_at hl 4 rfl) ?_
    refine lv_bipush (v := 16) hx hb dX9_carries_5 (by decide) ?_
    refine lv_icmp_ge (tgt := 44) hx hb dX9_carries_7 (by decide) (fun c1 => ?_) (fun c1 => ?_)
    · have hf := g_ift hf c1
      obtain rfl := g_some hf
      exact kk _ _ _ hP hS (lv_sub hl [2] rfl)
    · have hf := g_iff hf c1
      refine lv_iload hx hb dX9_carries_10 (lv_at hl 3 rfl) ?_
      refine lv_if_eq (tgt := 28) hx hb dX9_carries_12 (by decide) (fun c2 => ?_) (fun c2 => ?_)
      · have hf := g_ift hf c2
        refine lv_aload_n hx hb dX9_carries_28 rfl (lv_at hl 1 rfl) ?_
        refine lv_iload_n hx hb dX9_carries_29 rfl (lv_at hl 2 rfl) ?_
        refine lv_iload hx hb dX9_carries_30 (lv_at hl 4 rfl) ?_
        refine lv_iadd hx hb dX9_carries_32 ?_
        refine lv_aload_n hx hb dX9_carries_33 rfl (lv_at hl 0 rfl) ?_
        refine lv_iload hx hb dX9_carries_34 (lv_at hl 4 rfl) ?_
        obtain ⟨b3, hf⟩ := g_if hf
        refine giM_11 X E hP b3 dX9_carries_36 ?_
        obtain ⟨b4, hf⟩ := g_if hf
        refine gsM_29 X E hP hS b4 dX9_carries_37 (fun H locs hP hS => ?_)
        refine lv_iinc (v := (v5 + 1)) (lv' := [(5, .int (v5 + 1)), (1, .ref (ga G 11)), (2, .ref (ga G 29)), (3, .int v3), (4, .int v4)]) hx hb dX9_carries_38 hl (k := 4) rfl rfl (by decide) rfl (fun ls hl => ?_)
        refine lv_goto (tgt := 3) hx hb dX9_carries_41 (by decide) ?_
        exact ih _ _ _ _ _ _ _ _ hf hP hS (lv_sub hl [1, 2, 3, 4, 0] rfl) kk
      · have hf := g_iff hf c2
        refine lv_aload_n hx hb dX9_carries_15 rfl (lv_at hl 0 rfl) ?_
        refine lv_iload hx hb dX9_carries_16 (lv_at hl 4 rfl) ?_
        refine lv_aload_n hx hb dX9_carries_18 rfl (lv_at hl 1 rfl) ?_
        refine lv_iload_n hx hb dX9_carries_19 rfl (lv_at hl 2 rfl) ?_
        refine lv_iload hx hb dX9_carries_20 (lv_at hl 4 rfl) ?_
        refine lv_iadd hx hb dX9_carries_22 ?_
        obtain ⟨b5, hf⟩ := g_if hf
        refine giM_29 X E hP b5 dX9_carries_23 ?_
        obtain ⟨b6, hf⟩ := g_if hf
        refine gsM_11 X E hP hS b6 dX9_carries_24 (fun H locs hP hS => ?_)
        refine lv_goto (tgt := 38) hx hb dX9_carries_25 (by decide) ?_
        refine lv_iinc (v := (v5 + 1)) (lv' := [(5, .int (v5 + 1)), (1, .ref (ga G 11)), (2, .ref (ga G 29)), (3, .int v3), (4, .int v4)]) hx hb dX9_carries_38 hl (k := 4) rfl rfl (by decide) rfl (fun ls hl => ?_)
        refine lv_goto (tgt := 3) hx hb dX9_carries_41 (by decide) ?_
        exact ih _ _ _ _ _ _ _ _ hf hP hS (lv_sub hl [1, 2, 3, 4, 0] rfl) kk
def fX9_carries_11_29 (S : GS) (a1 : Int32) (a2 : Int32) : Option (Int32 × GS) :=
  (fX9_carries_11_29_3 gFuel S a1 a2 (0 : Int32)).bind fun u7 =>
  some ((a1 + (16 : Int32)), u7)
set_option maxHeartbeats 4000000 in
set_option maxRecDepth 100000 in
theorem tcX9_carries_11_29 (l : Launch) (G : GP) (S : GS) (a1 : Int32) (a2 : Int32) {R : (Int32 × GS)} (hf : fX9_carries_11_29 S a1 a2 = some R) : CI l yX9_carries wsX9_carries 0 0 [.ref (ga G 63), .ref (ga G 11), .ref (ga G 29), .int a1, .int a2] WM G S R.1 R.2 := by
  refine g_met RX9 (cc := cX9_carries) (nL := 6) (ret := (some .int)) (by decide) rfl rfl (Nat.le_of_ble_eq_true rfl) ?_
  intro p e s m below meth c ls X E hP hS hl
  have hl : lv_has ls 6 [(0, .ref (ga G 63)), (1, .ref (ga G 11)), (2, .ref (ga G 29)), (3, .int a1), (4, .int a2)] := hl
  obtain ⟨hx, hb, -, -, hown, hts, -⟩ := id X
  rw [fX9_carries_11_29] at hf
  refine lv_iconst (v := 0) hx hb dX9_carries_0 (by decide) ?_
  refine lv_istore (lv' := [(5, .int (0 : Int32)), (0, .ref (ga G 63)), (1, .ref (ga G 11)), (2, .ref (ga G 29)), (3, .int a1), (4, .int a2)]) hx hb dX9_carries_1 hl (by decide) rfl (fun ls hl => ?_)
  obtain ⟨u7, h8, hf⟩ := g_bind hf
  refine bX9_carries_11_29_3 X E gFuel _ _ _ _ u7 _ _ _ h8 hP hS (lv_sub hl [2, 3, 4, 5, 0] rfl) (fun H locs ls hP hS hl => ?_)
  have hl : lv_has ls 6 [(3, .int a1)] := hl
  have hP : va_P (gD G) vwCl (WM G u7 ++ gF G) H := hP
  refine lv_iload_n hx hb dX9_carries_44 rfl (lv_at hl 0 rfl) ?_
  refine lv_bipush (v := 16) hx hb dX9_carries_45 (by decide) ?_
  refine lv_iadd hx hb dX9_carries_47 ?_
  obtain rfl := g_some hf
  exact g_ri X E hP hS dX9_carries_48
def fX9_carries_12_29_3 : Nat → GS → Int32 → Int32 → Int32 → Option GS
  | 0, _, _, _, _ => none
  | fu + 1, S, v3, v4, v5 =>
    if (16 : Int32) ≤ v5 then
      some S
    else
      if v4 = 0 then
        if v5 < 0 ∨ 16 ≤ (v5).toNatClampNeg then none else
        if (v3 + v5) < 0 ∨ 140 ≤ (v3 + v5).toNatClampNeg then none else
        fX9_carries_12_29_3 fu (gU3 S 29 (v3 + v5).toNatClampNeg (S.2.2.1 12 (v5).toNatClampNeg)) v3 v4 (v5 + 1)
      else
        if (v3 + v5) < 0 ∨ 140 ≤ (v3 + v5).toNatClampNeg then none else
        if v5 < 0 ∨ 16 ≤ (v5).toNatClampNeg then none else
        fX9_carries_12_29_3 fu (gU3 S 12 (v5).toNatClampNeg (S.2.2.1 29 (v3 + v5).toNatClampNeg)) v3 v4 (v5 + 1)
set_option maxHeartbeats 4000000 in
set_option maxRecDepth 100000 in
theorem bX9_carries_12_29_3 {p : Program} {l : Launch} {e : Env} {s : State} {m : MethodId} {args : Array Value} {below : List Frame} {meth : Method} {c : Code} {Q : State → Prop} {G : GP} (X : GX p s m meth c args cX9_carries 6 (some .int) wsX9_carries RX9) (E : gE WM G s)  : ∀ (fu : Nat) (S : GS) (v3 : Int32) (v4 : Int32) (v5 : Int32) (R : GS) (H : Heap) (locs : List Loc) (ls : Array Slot) (_ : fX9_carries_12_29_3 fu S v3 v4 v5 = some R) (_ : va_P (gD G) vwCl (WM G S ++ gF G) H) (_ : va_S (gA G) s.heap H locs) (_ : lv_has ls 6 [(1, .ref (ga G 12)), (2, .ref (ga G 29)), (3, .int v3), (4, .int v4), (5, .int v5)]) (_ : ∀ (H : Heap) (locs : List Loc) (ls : Array Slot), va_P (gD G) vwCl (WM G R ++ gF G) H → va_S (gA G) s.heap H locs → lv_has ls 6 [(3, .int v3)] → W p l e (gR 0 0) s m args below meth c H locs 0 0 Q (F0 m 44 ls [])), W p l e (gR 0 0) s m args below meth c H locs 0 0 Q (F0 m 3 ls []) := by
  obtain ⟨hx, hb, -, -, hown, hts, -⟩ := id X
  intro fu
  induction fu with
  | zero =>
    intro S v3 v4 v5 R H locs ls hf
    cases (show (none : Option GS) = some R from hf)
  | succ fu ih =>
    intro S v3 v4 v5 R H locs ls hf hP hS hl kk
    rw [fX9_carries_12_29_3] at hf
    refine lv_iload hx hb dX9_carries_3 (lv_at hl 4 rfl) ?_
    refine lv_bipush (v := 16) hx hb dX9_carries_5 (by decide) ?_
    refine lv_icmp_ge (tgt := 44) hx hb dX9_carries_7 (by decide) (fun c1 => ?_) (fun c1 => ?_)
    · have hf := g_ift hf c1
      obtain rfl := g_some hf
      exact kk _ _ _ hP hS (lv_sub hl [2] rfl)
    · have hf := g_iff hf c1
      refine lv_iload hx hb dX9_carries_10 (lv_at hl 3 rfl) ?_
      refine lv_if_eq (tgt := 28) hx hb dX9_carries_12 (by decide) (fun c2 => ?_) (fun c2 => ?_)
      · have hf := g_ift hf c2
        refine lv_aload_n hx hb dX9_carries_28 rfl (lv_at hl 1 rfl) ?_
        refine lv_iload_n hx hb dX9_carries_29 rfl (lv_at hl 2 rfl) ?_
        refine lv_iload hx hb dX9_carries_30 (lv_at hl 4 rfl) ?_
        refine lv_iadd hx hb dX9_carries_32 ?_
        refine lv_aload_n hx hb dX9_carries_33 rfl (lv_at hl 0 rfl) ?_
        refine lv_iload hx hb dX9_carries_34 (lv_at hl 4 rfl) ?_
        obtain ⟨b3, hf⟩ := g_if hf
        refine giM_12 X E hP b3 dX9_carries_36 ?_
        obtain ⟨b4, hf⟩ := g_if hf
        refine gsM_29 X E hP hS b4 dX9_carries_37 (fun H locs hP hS => ?_)
        refine lv_iinc (v := (v5 + 1)) (lv' := [(5, .int (v5 + 1)), (1, .ref (ga G 12)), (2, .ref (ga G 29)), (3, .int v3), (4, .int v4)]) hx hb dX9_carries_38 hl (k := 4) rfl rfl (by decide) rfl (fun ls hl => ?_)
        refine lv_goto (tgt := 3) hx hb dX9_carries_41 (by decide) ?_
        exact ih _ _ _ _ _ _ _ _ hf hP hS (lv_sub hl [1, 2, 3, 4, 0] rfl) kk
      · have hf := g_iff hf c2
        refine lv_aload_n hx hb dX9_carries_15 rfl (lv_at hl 0 rfl) ?_
        refine lv_iload hx hb dX9_carries_16 (lv_at hl 4 rfl) ?_
        refine lv_aload_n hx hb dX9_carries_18 rfl (lv_at hl 1 rfl) ?_
        refine lv_iload_n hx hb dX9_carries_19 rfl (lv_at hl 2 rfl) ?_
        refine lv_iload hx hb dX9_carries_20 (lv_at hl 4 rfl) ?_
        refine lv_iadd hx hb dX9_carries_22 ?_
        obtain ⟨b5, hf⟩ := g_if hf
        refine giM_29 X E hP b5 dX9_carries_23 ?_
        obtain ⟨b6, hf⟩ := g_if hf
        refine gsM_12 X E hP hS b6 dX9_carries_24 (fun H locs hP hS => ?_)
        refine lv_goto (tgt := 38) hx hb dX9_carries_25 (by decide) ?_
        refine lv_iinc (v := (v5 + 1)) (lv' := [(5, .int (v5 + 1)), (1, .ref (ga G 12)), (2, .ref (ga G 29)), (3, .int v3), (4, .int v4)]) hx hb dX9_carries_38 hl (k := 4) rfl rfl (by decide) rfl (fun ls hl => ?_)
        refine lv_goto (tgt := 3) hx hb dX9_carries_41 (by decide) ?_
        exact ih _ _ _ _ _ _ _ _ hf hP hS (lv_sub hl [1, 2, 3, 4, 0] rfl) kk
def fX9_carries_12_29 (S : GS) (a1 : Int32) (a2 : Int32) : Option (Int32 × GS) :=
  (fX9_carries_12_29_3 gFuel S a1 a2 (0 : Int32)).bind fun u7 =>
  some ((a1 + (16 : Int32)), u7)
set_option maxHeartbeats 4000000 in
set_option maxRecDepth 100000 in
theorem tcX9_carries_12_29 (l : Launch) (G : GP) (S : GS) (a1 : Int32) (a2 : Int32) {R : (Int32 × GS)} (hf : fX9_carries_12_29 S a1 a2 = some R) : CI l yX9_carries wsX9_carries 0 0 [.ref (ga G 63), .ref (ga G 12), .ref (ga G 29), .int a1, .int a2] WM G S R.1 R.2 := by
  refine g_met RX9 (cc := cX9_carries) (nL := 6) (ret := (some .int)) (by decide) rfl rfl (Nat.le_of_ble_eq_true rfl) ?_
  intro p e s m below meth c ls X E hP hS hl
  have hl : lv_has ls 6 [(0, .ref (ga G 63)), (1, .ref (ga G 12)), (2, .ref (ga G 29)), (3, .int a1), (4, .int a2)] := hl
  obtain ⟨hx, hb, -, -, hown, hts, -⟩ := id X
  rw [fX9_carries_12_29] at hf
  refine lv_iconst (v := 0) hx hb dX9_carries_0 (by decide) ?_
  refine lv_istore (lv' := [(5, .int (0 : Int32)), (0, .ref (ga G 63)), (1, .ref (ga G 12)), (2, .ref (ga G 29)), (3, .int a1), (4, .int a2)]) hx hb dX9_carries_1 hl (by decide) rfl (fun ls hl => ?_)
  obtain ⟨u7, h8, hf⟩ := g_bind hf
  refine bX9_carries_12_29_3 X E gFuel _ _ _ _ u7 _ _ _ h8 hP hS (lv_sub hl [2, 3, 4, 5, 0] rfl) (fun H locs ls hP hS hl => ?_)
  have hl : lv_has ls 6 [(3, .int a1)] := hl
  have hP : va_P (gD G) vwCl (WM G u7 ++ gF G) H := hP
  refine lv_iload_n hx hb dX9_carries_44 rfl (lv_at hl 0 rfl) ?_
  refine lv_bipush (v := 16) hx hb dX9_carries_45 (by decide) ?_
  refine lv_iadd hx hb dX9_carries_47 ?_
  obtain rfl := g_some hf
  exact g_ri X E hP hS dX9_carries_48
def fX9_carries_13_29_3 : Nat → GS → Int32 → Int32 → Int32 → Option GS
  | 0, _, _, _, _ => none
  | fu + 1, S, v3, v4, v5 =>
    if (16 : Int32) ≤ v5 then
      some S
    else
      if v4 = 0 then
        if v5 < 0 ∨ 16 ≤ (v5).toNatClampNeg then none else
        if (v3 + v5) < 0 ∨ 140 ≤ (v3 + v5).toNatClampNeg then none else
        fX9_carries_13_29_3 fu (gU3 S 29 (v3 + v5).toNatClampNeg (S.2.2.1 13 (v5).toNatClampNeg)) v3 v4 (v5 + 1)
      else
        if (v3 + v5) < 0 ∨ 140 ≤ (v3 + v5).toNatClampNeg then none else
        if v5 < 0 ∨ 16 ≤ (v5).toNatClampNeg then none else
        fX9_carries_13_29_3 fu (gU3 S 13 (v5).toNatClampNeg (S.2.2.1 29 (v3 + v5).toNatClampNeg)) v3 v4 (v5 + 1)
set_option maxHeartbeats 4000000 in
set_option maxRecDepth 100000 in
theorem bX9_carries_13_29_3 {p : Program} {l : Launch} {e : Env} {s : State} {m : MethodId} {args : Array Value} {below : List Frame} {meth : Method} {c : Code} {Q : State → Prop} {G : GP} (X : GX p s m meth c args cX9_carries 6 (some .int) wsX9_carries RX9) (E : gE WM G s)  : ∀ (fu : Nat) (S : GS) (v3 : Int32) (v4 : Int32) (v5 : Int32) (R : GS) (H : Heap) (locs : List Loc) (ls : Array Slot) (_ : fX9_carries_13_29_3 fu S v3 v4 v5 = some R) (_ : va_P (gD G) vwCl (WM G S ++ gF G) H) (_ : va_S (gA G) s.heap H locs) (_ : lv_has ls 6 [(1, .ref (ga G 13)), (2, .ref (ga G 29)), (3, .int v3), (4, .int v4), (5, .int v5)]) (_ : ∀ (H : Heap) (locs : List Loc) (ls : Array Slot), va_P (gD G) vwCl (WM G R ++ gF G) H → va_S (gA G) s.heap H locs → lv_has ls 6 [(3, .int v3)] → W p l e (gR 0 0) s m args below meth c H locs 0 0 Q (F0 m 44 ls [])), W p l e (gR 0 0) s m args below meth c H locs 0 0 Q (F0 m 3 ls []) := by
  obtain ⟨hx, hb, -, -, hown, hts, -⟩ := id X
  intro fu
  induction fu with
  | zero =>
    intro S v3 v4 v5 R H locs ls hf
    cases (show (none : Option GS) = some R from hf)
  | succ fu ih =>
    intro S v3 v4 v5 R H locs ls hf hP hS hl kk
    rw [fX9_carries_13_29_3] at hf
    refine lv_iload hx hb dX9_carries_3 (lv_at hl 4 rfl) ?_
    refine lv_bipush (v := 16) hx hb dX9_carries_5 (by decide) ?_
    refine lv_icmp_ge (tgt := 44) hx hb dX9_carries_7 (by decide) (fun c1 => ?_) (fun c1 => ?_)
    · have hf := g_ift hf c1
      obtain rfl := g_some hf
      exact kk _ _ _ hP hS (lv_sub hl [2] rfl)
    · have hf := g_iff hf c1
      refine lv_iload hx hb dX9_carries_10 (lv_at hl 3 rfl) ?_
      refine lv_if_eq (tgt := 28) hx hb dX9_carries_12 (by decide) (fun c2 => ?_) (fun c2 => ?_)
      · have hf := g_ift hf c2
        refine lv_aload_n hx hb dX9_carries_28 rfl (lv_at hl 1 rfl) ?_
        refine lv_iload_n hx hb dX9_carries_29 rfl (lv_at hl 2 rfl) ?_
        refine lv_iload hx hb dX9_carries_30 (lv_at hl 4 rfl) ?_
        refine lv_iadd hx hb dX9_carries_32 ?_
        refine lv_aload_n hx hb dX9_carries_33 rfl (lv_at hl 0 rfl) ?_
        refine lv_iload hx hb dX9_carries_34 (lv_at hl 4 rfl) ?_
        obtain ⟨b3, hf⟩ := g_if hf
        refine giM_13 X E hP b3 dX9_carries_36 ?_
        obtain ⟨b4, hf⟩ := g_if hf
        refine gsM_29 X E hP hS b4 dX9_carries_37 (fun H locs hP hS => ?_)
        refine lv_iinc (v := (v5 + 1)) (lv' := [(5, .int (v5 + 1)), (1, .ref (ga G 13)), (2, .ref (ga G 29)), (3, .int v3), (4, .int v4)]) hx hb dX9_carries_38 hl (k := 4) rfl rfl (by decide) rfl (fun ls hl => ?_)
        refine lv_goto (tgt := 3) hx hb dX9_carries_41 (by decide) ?_
        exact ih _ _ _ _ _ _ _ _ hf hP hS (lv_sub hl [1, 2, 3, 4, 0] rfl) kk
      · have hf := g_iff hf c2
        refine lv_aload_n hx hb dX9_carries_15 rfl (lv_at hl 0 rfl) ?_
        refine lv_iload hx hb dX9_carries_16 (lv_at hl 4 rfl) ?_
        refine lv_aload_n hx hb dX9_carries_18 rfl (lv_at hl 1 rfl) ?_
        refine lv_iload_n hx hb dX9_carries_19 rfl (lv_at hl 2 rfl) ?_
        refine lv_iload hx hb dX9_carries_20 (lv_at hl 4 rfl) ?_
        refine lv_iadd hx hb dX9_carries_22 ?_
        obtain ⟨b5, hf⟩ := g_if hf
        refine giM_29 X E hP b5 dX9_carries_23 ?_
        obtain ⟨b6, hf⟩ := g_if hf
        refine gsM_13 X E hP hS b6 dX9_carries_24 (fun H locs hP hS => ?_)
        refine lv_goto (tgt := 38) hx hb dX9_carries_25 (by decide) ?_
        refine lv_iinc (v := (v5 + 1)) (lv' := [(5, .int (v5 + 1)), (1, .ref (ga G 13)), (2, .ref (ga G 29)), (3, .int v3), (4, .int v4)]) hx hb dX9_carries_38 hl (k := 4) rfl rfl (by decide) rfl (fun ls hl => ?_)
        refine lv_goto (tgt := 3) hx hb dX9_carries_41 (by decide) ?_
        exact ih _ _ _ _ _ _ _ _ hf hP hS (lv_sub hl [1, 2, 3, 4, 0] rfl) kk
def fX9_carries_13_29 (S : GS) (a1 : Int32) (a2 : Int32) : Option (Int32 × GS) :=
  (fX9_carries_13_29_3 gFuel S a1 a2 (0 : Int32)).bind fun u7 =>
  some ((a1 + (16 : Int32)), u7)
set_option maxHeartbeats 4000000 in
set_option maxRecDepth 100000 in
theorem tcX9_carries_13_29 (l : Launch) (G : GP) (S : GS) (a1 : Int32) (a2 : Int32) {R : (Int32 × GS)} (hf : fX9_carries_13_29 S a1 a2 = some R) : CI l yX9_carries wsX9_carries 0 0 [.ref (ga G 63), .ref (ga G 13), .ref (ga G 29), .int a1, .int a2] WM G S R.1 R.2 := by
  refine g_met RX9 (cc := cX9_carries) (nL := 6) (ret := (some .int)) (by decide) rfl rfl (Nat.le_of_ble_eq_true rfl) ?_
  intro p e s m below meth c ls X E hP hS hl
  have hl : lv_has ls 6 [(0, .ref (ga G 63)), (1, .ref (ga G 13)), (2, .ref (ga G 29)), (3, .int a1), (4, .int a2)] := hl
  obtain ⟨hx, hb, -, -, hown, hts, -⟩ := id X
  rw [fX9_carries_13_29] at hf
  refine lv_iconst (v := 0) hx hb dX9_carries_0 (by decide) ?_
  refine lv_istore (lv' := [(5, .int (0 : Int32)), (0, .ref (ga G 63)), (1, .ref (ga G 13)), (2, .ref (ga G 29)), (3, .int a1), (4, .int a2)]) hx hb dX9_carries_1 hl (by decide) rfl (fun ls hl => ?_)
  obtain ⟨u7, h8, hf⟩ := g_bind hf
  refine bX9_carries_13_29_3 X E gFuel _ _ _ _ u7 _ _ _ h8 hP hS (lv_sub hl [2, 3, 4, 5, 0] rfl) (fun H locs ls hP hS hl => ?_)
  have hl : lv_has ls 6 [(3, .int a1)] := hl
  have hP : va_P (gD G) vwCl (WM G u7 ++ gF G) H := hP
  refine lv_iload_n hx hb dX9_carries_44 rfl (lv_at hl 0 rfl) ?_
  refine lv_bipush (v := 16) hx hb dX9_carries_45 (by decide) ?_
  refine lv_iadd hx hb dX9_carries_47 ?_
  obtain rfl := g_some hf
  exact g_ri X E hP hS dX9_carries_48
def fX9_carries_14_29_3 : Nat → GS → Int32 → Int32 → Int32 → Option GS
  | 0, _, _, _, _ => none
  | fu + 1, S, v3, v4, v5 =>
    if (16 : Int32) ≤ v5 then
      some S
    else
      if v4 = 0 then
        if v5 < 0 ∨ 16 ≤ (v5).toNatClampNeg then none else
        if (v3 + v5) < 0 ∨ 140 ≤ (v3 + v5).toNatClampNeg then none else
        fX9_carries_14_29_3 fu (gU3 S 29 (v3 + v5).toNatClampNeg (S.2.2.1 14 (v5).toNatClampNeg)) v3 v4 (v5 + 1)
      else
        if (v3 + v5) < 0 ∨ 140 ≤ (v3 + v5).toNatClampNeg then none else
        if v5 < 0 ∨ 16 ≤ (v5).toNatClampNeg then none else
        fX9_carries_14_29_3 fu (gU3 S 14 (v5).toNatClampNeg (S.2.2.1 29 (v3 + v5).toNatClampNeg)) v3 v4 (v5 + 1)
set_option maxHeartbeats 4000000 in
set_option maxRecDepth 100000 in
theorem bX9_carries_14_29_3 {p : Program} {l : Launch} {e : Env} {s : State} {m : MethodId} {args : Array Value} {below : List Frame} {meth : Method} {c : Code} {Q : State → Prop} {G : GP} (X : GX p s m meth c args cX9_carries 6 (some .int) wsX9_carries RX9) (E : gE WM G s)  : ∀ (fu : Nat) (S : GS) (v3 : Int32) (v4 : Int32) (v5 : Int32) (R : GS) (H : Heap) (locs : List Loc) (ls : Array Slot) (_ : fX9_carries_14_29_3 fu S v3 v4 v5 = some R) (_ : va_P (gD G) vwCl (WM G S ++ gF G) H) (_ : va_S (gA G) s.heap H locs) (_ : lv_has ls 6 [(1, .ref (ga G 14)), (2, .ref (ga G 29)), (3, .int v3), (4, .int v4), (5, .int v5)]) (_ : ∀ (H : Heap) (locs : List Loc) (ls : Array Slot), va_P (gD G) vwCl (WM G R ++ gF G) H → va_S (gA G) s.heap H locs → lv_has ls 6 [(3, .int v3)] → W p l e (gR 0 0) s m args below meth c H locs 0 0 Q (F0 m 44 ls [])), W p l e (gR 0 0) s m args below meth c H locs 0 0 Q (F0 m 3 ls []) := by
  obtain ⟨hx, hb, -, -, hown, hts, -⟩ := id X
  intro fu
  induction fu with
  | zero =>
    intro S v3 v4 v5 R H locs ls hf
    cases (show (none : Option GS) = some R from hf)
  | succ fu ih =>
    intro S v3 v4 v5 R H locs ls hf hP hS hl kk
    rw [fX9_carries_14_29_3] at hf
    refine lv_iload hx hb dX9_carries_3 (lv_at hl 4 rfl) ?_
    refine lv_bipush (v := 16) hx hb dX9_carries_5 (by decide) ?_
    refine lv_icmp_ge (tgt := 44) hx hb dX9_carries_7 (by decide) (fun c1 => ?_) (fun c1 => ?_)
    · have hf := g_ift hf c1
      obtain rfl := g_some hf
      exact kk _ _ _ hP hS (lv_sub hl [2] rfl)
    · have hf := g_iff hf c1
      refine lv_iload hx hb dX9_carries_10 (lv_at hl 3 rfl) ?_
      refine lv_if_eq (tgt := 28) hx hb dX9_carries_12 (by decide) (fun c2 => ?_) (fun c2 => ?_)
      · have hf := g_ift hf c2
        refine lv_aload_n hx hb dX9_carries_28 rfl (lv_at hl 1 rfl) ?_
        refine lv_iload_n hx hb dX9_carries_29 rfl (lv_at hl 2 rfl) ?_
        refine lv_iload hx hb dX9_carries_30 (lv_at hl 4 rfl) ?_
        refine lv_iadd hx hb dX9_carries_32 ?_
        refine lv_aload_n hx hb dX9_carries_33 rfl (lv_at hl 0 rfl) ?_
        refine lv_iload hx hb dX9_carries_34 (lv_at hl 4 rfl) ?_
        obtain ⟨b3, hf⟩ := g_if hf
        refine giM_14 X E hP b3 dX9_carries_36 ?_
        obtain ⟨b4, hf⟩ := g_if hf
        refine gsM_29 X E hP hS b4 dX9_carries_37 (fun H locs hP hS => ?_)
        refine lv_iinc (v := (v5 + 1)) (lv' := [(5, .int (v5 + 1)), (1, .ref (ga G 14)), (2, .ref (ga G 29)), (3, .int v3), (4, .int v4)]) hx hb dX9_carries_38 hl (k := 4) rfl rfl (by decide) rfl (fun ls hl => ?_)
        refine lv_goto (tgt := 3) hx hb dX9_carries_41 (by decide) ?_
        exact ih _ _ _ _ _ _ _ _ hf hP hS (lv_sub hl [1, 2, 3, 4, 0] rfl) kk
      · have hf := g_iff hf c2
        refine lv_aload_n hx hb dX9_carries_15 rfl (lv_at hl 0 rfl) ?_
        refine lv_iload hx hb dX9_carries_16 (lv_at hl 4 rfl) ?_
        refine lv_aload_n hx hb dX9_carries_18 rfl (lv_at hl 1 rfl) ?_
        refine lv_iload_n hx hb dX9_carries_19 rfl (lv_at hl 2 rfl) ?_
        refine lv_iload hx hb dX9_carries_20 (lv_at hl 4 rfl) ?_
        refine lv_iadd hx hb dX9_carries_22 ?_
        obtain ⟨b5, hf⟩ := g_if hf
        refine giM_29 X E hP b5 dX9_carries_23 ?_
        obtain ⟨b6, hf⟩ := g_if hf
        refine gsM_14 X E hP hS b6 dX9_carries_24 (fun H locs hP hS => ?_)
        refine lv_goto (tgt := 38) hx hb dX9_carries_25 (by decide) ?_
        refine lv_iinc (v := (v5 + 1)) (lv' := [(5, .int (v5 + 1)), (1, .ref (ga G 14)), (2, .ref (ga G 29)), (3, .int v3), (4, .int v4)]) hx hb dX9_carries_38 hl (k := 4) rfl rfl (by decide) rfl (fun ls hl => ?_)
        refine lv_goto (tgt := 3) hx hb dX9_carries_41 (by decide) ?_
        exact ih _ _ _ _ _ _ _ _ hf hP hS (lv_sub hl [1, 2, 3, 4, 0] rfl) kk
def fX9_carries_14_29 (S : GS) (a1 : Int32) (a2 : Int32) : Option (Int32 × GS) :=
  (fX9_carries_14_29_3 gFuel S a1 a2 (0 : Int32)).bind fun u7 =>
  some ((a1 + (16 : Int32)), u7)
set_option maxHeartbeats 4000000 in
set_option maxRecDepth 100000 in
theorem tcX9_carries_14_29 (l : Launch) (G : GP) (S : GS) (a1 : Int32) (a2 : Int32) {R : (Int32 × GS)} (hf : fX9_carries_14_29 S a1 a2 = some R) : CI l yX9_carries wsX9_carries 0 0 [.ref (ga G 63), .ref (ga G 14), .ref (ga G 29), .int a1, .int a2] WM G S R.1 R.2 := by
  refine g_met RX9 (cc := cX9_carries) (nL := 6) (ret := (some .int)) (by decide) rfl rfl (Nat.le_of_ble_eq_true rfl) ?_
  intro p e s m below meth c ls X E hP hS hl
  have hl : lv_has ls 6 [(0, .ref (ga G 63)), (1, .ref (ga G 14)), (2, .ref (ga G 29)), (3, .int a1), (4, .int a2)] := hl
  obtain ⟨hx, hb, -, -, hown, hts, -⟩ := id X
  rw [fX9_carries_14_29] at hf
  refine lv_iconst (v := 0) hx hb dX9_carries_0 (by decide) ?_
  refine lv_istore (lv' := [(5, .int (0 : Int32)), (0, .ref (ga G 63)), (1, .ref (ga G 14)), (2, .ref (ga G 29)), (3, .int a1), (4, .int a2)]) hx hb dX9_carries_1 hl (by decide) rfl (fun ls hl => ?_)
  obtain ⟨u7, h8, hf⟩ := g_bind hf
  refine bX9_carries_14_29_3 X E gFuel _ _ _ _ u7 _ _ _ h8 hP hS (lv_sub hl [2, 3, 4, 5, 0] rfl) (fun H locs ls hP hS hl => ?_)
  have hl : lv_has ls 6 [(3, .int a1)] := hl
  have hP : va_P (gD G) vwCl (WM G u7 ++ gF G) H := hP
  refine lv_iload_n hx hb dX9_carries_44 rfl (lv_at hl 0 rfl) ?_
  refine lv_bipush (v := 16) hx hb dX9_carries_45 (by decide) ?_
  refine lv_iadd hx hb dX9_carries_47 ?_
  obtain rfl := g_some hf
  exact g_ri X E hP hS dX9_carries_48
theorem lkX9_all_0 : Cond.fieldLink RX9 26 RX9 "kind" "[I" ∈ wsX9_all := by decide +kernel
theorem lkX9_all_1 : Cond.fieldLink RX9 29 RX9 "part" "[I" ∈ wsX9_all := by decide +kernel
theorem lkX9_all_2 : Cond.fieldLink RX9 32 RX9 "behind" "[I" ∈ wsX9_all := by decide +kernel
theorem lkX9_all_3 : Cond.fieldLink RX9 35 RX9 "ahead" "[I" ∈ wsX9_all := by decide +kernel
theorem lkX9_all_4 : Cond.fieldLink RX9 38 RX9 "back" "[I" ∈ wsX9_all := by decide +kernel
theorem lkX9_all_5 : Cond.fieldLink RX9 41 RX9 "on" "[I" ∈ wsX9_all := by decide +kernel
theorem lkX9_all_6 : Cond.fieldLink RX9 44 RX9 "holder" "[I" ∈ wsX9_all := by decide +kernel
theorem lkX9_all_7 : Cond.fieldLink RX9 47 RX9 "first" "[I" ∈ wsX9_all := by decide +kernel
theorem lkX9_all_8 : Cond.fieldLink RX9 91 RX9 "many" "I" ∈ wsX9_all := by decide +kernel
theorem lkX9_all_9 : Cond.fieldLink RX9 134 RX9 "start" "I" ∈ wsX9_all := by decide +kernel
theorem lkX9_all_10 : Cond.fieldLink RX9 7 RX9 "hair" "I" ∈ wsX9_all := by decide +kernel
theorem lkX9_all_11 : Cond.fieldLink RX9 13 RX9 "fine" "I" ∈ wsX9_all := by decide +kernel
theorem lkX9_all_12 : Cond.fieldLink RX9 16 RX9 "seed" "I" ∈ wsX9_all := by decide +kernel
theorem inX9_all_X9 : ∀ w ∈ wsX90, w ∈ wsX9_all := by decide +kernel
def fX9_all_29 (S : GS) (a1 : Int32) : Option GS :=
  (fX9_carries_7_29 S (0 : Int32) a1).bind fun u1 =>
  (fX9_carries_8_29 u1.2 u1.1 a1).bind fun u3 =>
  (fX9_carries_9_29 u3.2 u3.1 a1).bind fun u5 =>
  (fX9_carries_10_29 u5.2 u5.1 a1).bind fun u7 =>
  (fX9_carries_11_29 u7.2 u7.1 a1).bind fun u9 =>
  (fX9_carries_12_29 u9.2 u9.1 a1).bind fun u11 =>
  (fX9_carries_13_29 u11.2 u11.1 a1).bind fun u13 =>
  (fX9_carries_14_29 u13.2 u13.1 a1).bind fun u15 =>
  if a1 = 0 then
    if u15.1 < 0 ∨ 140 ≤ (u15.1).toNatClampNeg then none else
    if (u15.1 + (1 : Int32)) < 0 ∨ 140 ≤ (u15.1 + (1 : Int32)).toNatClampNeg then none else
    gLet (gU3 (gU3 u15.2 29 (u15.1).toNatClampNeg (u15.2.1 0)) 29 (u15.1 + (1 : Int32)).toNatClampNeg ((gU3 u15.2 29 (u15.1).toNatClampNeg (u15.2.1 0)).1 1)) fun T20 =>
    if (u15.1 + (2 : Int32)) < 0 ∨ 140 ≤ (u15.1 + (2 : Int32)).toNatClampNeg then none else
    if (u15.1 + (3 : Int32)) < 0 ∨ 140 ≤ (u15.1 + (3 : Int32)).toNatClampNeg then none else
    gLet (gU3 (gU3 T20 29 (u15.1 + (2 : Int32)).toNatClampNeg (T20.1 2)) 29 (u15.1 + (3 : Int32)).toNatClampNeg ((gU3 T20 29 (u15.1 + (2 : Int32)).toNatClampNeg (T20.1 2)).1 3)) fun T24 =>
    if (u15.1 + (4 : Int32)) < 0 ∨ 140 ≤ (u15.1 + (4 : Int32)).toNatClampNeg then none else
    some (gU3 T24 29 (u15.1 + (4 : Int32)).toNatClampNeg (T24.1 4))
  else
    if u15.1 < 0 ∨ 140 ≤ (u15.1).toNatClampNeg then none else
    if (u15.1 + (1 : Int32)) < 0 ∨ 140 ≤ (u15.1 + (1 : Int32)).toNatClampNeg then none else
    gLet (gU1 (gU1 u15.2 0 (u15.2.2.2.1 29 (u15.1).toNatClampNeg)) 1 ((gU1 u15.2 0 (u15.2.2.2.1 29 (u15.1).toNatClampNeg)).2.2.1 29 (u15.1 + (1 : Int32)).toNatClampNeg)) fun T29 =>
    if (u15.1 + (2 : Int32)) < 0 ∨ 140 ≤ (u15.1 + (2 : Int32)).toNatClampNeg then none else
    if (u15.1 + (3 : Int32)) < 0 ∨ 140 ≤ (u15.1 + (3 : Int32)).toNatClampNeg then none else
    gLet (gU1 (gU1 T29 2 (T29.2.2.1 29 (u15.1 + (2 : Int32)).toNatClampNeg)) 3 ((gU1 T29 2 (T29.2.2.1 29 (u15.1 + (2 : Int32)).toNatClampNeg)).2.2.1 29 (u15.1 + (3 : Int32)).toNatClampNeg)) fun T33 =>
    if (u15.1 + (4 : Int32)) < 0 ∨ 140 ≤ (u15.1 + (4 : Int32)).toNatClampNeg then none else
    some (gU1 T33 4 (T33.2.2.1 29 (u15.1 + (4 : Int32)).toNatClampNeg))
set_option maxHeartbeats 4000000 in
set_option maxRecDepth 100000 in
theorem tcX9_all_29 (l : Launch) (G : GP) (S : GS) (a1 : Int32) {R : GS} (hf : fX9_all_29 S a1 = some R) : CV l yX9_all wsX9_all 1 25 [.ref (ga G 63), .ref (ga G 29), .int a1] WM G S R := by
  refine g_met RX9 (cc := cX9_all) (nL := 4) (ret := none) (by decide) rfl rfl (Nat.le_of_ble_eq_true rfl) ?_
  intro p e s m below meth c ls X E hP hS hl
  have hl : lv_has ls 4 [(0, .ref (ga G 63)), (1, .ref (ga G 29)), (2, .int a1)] := hl
  obtain ⟨hx, hb, -, -, hown, hts, -⟩ := id X
  rw [fX9_all_29] at hf
  refine lv_aload_n hx hb dX9_all_0 rfl (lv_at hl 0 rfl) ?_
  refine lv_aload_n hx hb dX9_all_1 rfl (lv_at hl 0 rfl) ?_
  refine ggM_7 X E hP inX9_all_X9 lkX9_all_0 dX9_all_2 ?_
  refine lv_aload_n hx hb dX9_all_5 rfl (lv_at hl 1 rfl) ?_
  refine lv_iconst (v := 0) hx hb dX9_all_6 (by decide) ?_
  refine lv_iload_n hx hb dX9_all_7 rfl (lv_at hl 2 rfl) ?_
  obtain ⟨u1, h2, hf⟩ := g_bind hf
  refine g_vi (rest := []) X E hP hS (tcX9_carries_7_29 l G _ _ _ h2) (g_cwV X gX9_all_X9_carries rfl hdX9_carries ⟨Nat.le_of_ble_eq_true rfl, Nat.le_of_ble_eq_true rfl⟩) (rcM_model E hP) rfl hl.1 rfl (Nat.le_of_ble_eq_true rfl) dX9_all_8 ⟨Nat.le_refl _, Nat.le_refl _⟩ (fun H locs hP hS => ?_)
  refine lv_istore_n (lv' := [(3, .int u1.1), (0, .ref (ga G 63)), (1, .ref (ga G 29)), (2, .int a1)]) hx hb dX9_all_11 rfl hl (by decide) rfl (fun ls hl => ?_)
  refine lv_aload_n hx hb dX9_all_12 rfl (lv_at hl 1 rfl) ?_
  refine lv_aload_n hx hb dX9_all_13 rfl (lv_at hl 1 rfl) ?_
  refine ggM_8 X E hP inX9_all_X9 lkX9_all_1 dX9_all_14 ?_
  refine lv_aload_n hx hb dX9_all_17 rfl (lv_at hl 2 rfl) ?_
  refine lv_iload_n hx hb dX9_all_18 rfl (lv_at hl 0 rfl) ?_
  refine lv_iload_n hx hb dX9_all_19 rfl (lv_at hl 3 rfl) ?_
  obtain ⟨u3, h4, hf⟩ := g_bind hf
  refine g_vi (rest := []) X E hP hS (tcX9_carries_8_29 l G _ _ _ h4) (g_cwV X gX9_all_X9_carries rfl hdX9_carries ⟨Nat.le_of_ble_eq_true rfl, Nat.le_of_ble_eq_true rfl⟩) (rcM_model E hP) rfl hl.1 rfl (Nat.le_of_ble_eq_true rfl) dX9_all_20 ⟨Nat.le_refl _, Nat.le_refl _⟩ (fun H locs hP hS => ?_)
  refine lv_istore_n (lv' := [(3, .int u3.1), (0, .ref (ga G 63)), (1, .ref (ga G 29)), (2, .int a1)]) hx hb dX9_all_23 rfl hl (by decide) rfl (fun ls hl => ?_)
  refine lv_aload_n hx hb dX9_all_24 rfl (lv_at hl 1 rfl) ?_
  refine lv_aload_n hx hb dX9_all_25 rfl (lv_at hl 1 rfl) ?_
  refine ggM_9 X E hP inX9_all_X9 lkX9_all_2 dX9_all_26 ?_
  refine lv_aload_n hx hb dX9_all_29 rfl (lv_at hl 2 rfl) ?_
  refine lv_iload_n hx hb dX9_all_30 rfl (lv_at hl 0 rfl) ?_
  refine lv_iload_n hx hb dX9_all_31 rfl (lv_at hl 3 rfl) ?_
  obtain ⟨u5, h6, hf⟩ := g_bind hf
  refine g_vi (rest := []) X E hP hS (tcX9_carries_9_29 l G _ _ _ h6) (g_cwV X gX9_all_X9_carries rfl hdX9_carries ⟨Nat.le_of_ble_eq_true rfl, Nat.le_of_ble_eq_true rfl⟩) (rcM_model E hP) rfl hl.1 rfl (Nat.le_of_ble_eq_true rfl) dX9_all_32 ⟨Nat.le_refl _, Nat.le_refl _⟩ (fun H locs hP hS => ?_)
  refine lv_istore_n (lv' := [(3, .int u5.1), (0, .ref (ga G 63)), (1, .ref (ga G 29)), (2, .int a1)]) hx hb dX9_all_35 rfl hl (by decide) rfl (fun ls hl => ?_)
  refine lv_aload_n hx hb dX9_all_36 rfl (lv_at hl 1 rfl) ?_
  refine lv_aload_n hx hb dX9_all_37 rfl (lv_at hl 1 rfl) ?_
  refine ggM_10 X E hP inX9_all_X9 lkX9_all_3 dX9_all_38 ?_
  refine lv_aload_n hx hb dX9_all_41 rfl (lv_at hl 2 rfl) ?_
  refine lv_iload_n hx hb dX9_all_42 rfl (lv_at hl 0 rfl) ?_
  refine lv_iload_n hx hb dX9_all_43 rfl (lv_at hl 3 rfl) ?_
  obtain ⟨u7, h8, hf⟩ := g_bind hf
  refine g_vi (rest := []) X E hP hS (tcX9_carries_10_29 l G _ _ _ h8) (g_cwV X gX9_all_X9_carries rfl hdX9_carries ⟨Nat.le_of_ble_eq_true rfl, Nat.le_of_ble_eq_true rfl⟩) (rcM_model E hP) rfl hl.1 rfl (Nat.le_of_ble_eq_true rfl) dX9_all_44 ⟨Nat.le_refl _, Nat.le_refl _⟩ (fun H locs hP hS => ?_)
  refine lv_istore_n (lv' := [(3, .int u7.1), (0, .ref (ga G 63)), (1, .ref (ga G 29)), (2, .int a1)]) hx hb dX9_all_47 rfl hl (by decide) rfl (fun ls hl => ?_)
  refine lv_aload_n hx hb dX9_all_48 rfl (lv_at hl 1 rfl) ?_
  refine lv_aload_n hx hb dX9_all_49 rfl (lv_at hl 1 rfl) ?_
  refine ggM_11 X E hP inX9_all_X9 lkX9_all_4 dX9_all_50 ?_
  refine lv_aload_n hx hb dX9_all_53 rfl (lv_at hl 2 rfl) ?_
  refine lv_iload_n hx hb dX9_all_54 rfl (lv_at hl 0 rfl) ?_
  refine lv_iload_n hx hb dX9_all_55 rfl (lv_at hl 3 rfl) ?_
  obtain ⟨u9, h10, hf⟩ := g_bind hf
  refine g_vi (rest := []) X E hP hS (tcX9_carries_11_29 l G _ _ _ h10) (g_cwV X gX9_all_X9_carries rfl hdX9_carries ⟨Nat.le_of_ble_eq_true rfl, Nat.le_of_ble_eq_true rfl⟩) (rcM_model E hP) rfl hl.1 rfl (Nat.le_of_ble_eq_true rfl) dX9_all_56 ⟨Nat.le_refl _, Nat.le_refl _⟩ (fun H locs hP hS => ?_)
  refine lv_istore_n (lv' := [(3, .int u9.1), (0, .ref (ga G 63)), (1, .ref (ga G 29)), (2, .int a1)]) hx hb dX9_all_59 rfl hl (by decide) rfl (fun ls hl => ?_)
  refine lv_aload_n hx hb dX9_all_60 rfl (lv_at hl 1 rfl) ?_
  refine lv_aload_n hx hb dX9_all_61 rfl (lv_at hl 1 rfl) ?_
  refine ggM_12 X E hP inX9_all_X9 lkX9_all_5 dX9_all_62 ?_
  refine lv_aload_n hx hb dX9_all_65 rfl (lv_at hl 2 rfl) ?_
  refine lv_iload_n hx hb dX9_all_66 rfl (lv_at hl 0 rfl) ?_
  refine lv_iload_n hx hb dX9_all_67 rfl (lv_at hl 3 rfl) ?_
  obtain ⟨u11, h12, hf⟩ := g_bind hf
  refine g_vi (rest := []) X E hP hS (tcX9_carries_12_29 l G _ _ _ h12) (g_cwV X gX9_all_X9_carries rfl hdX9_carries ⟨Nat.le_of_ble_eq_true rfl, Nat.le_of_ble_eq_true rfl⟩) (rcM_model E hP) rfl hl.1 rfl (Nat.le_of_ble_eq_true rfl) dX9_all_68 ⟨Nat.le_refl _, Nat.le_refl _⟩ (fun H locs hP hS => ?_)
  refine lv_istore_n (lv' := [(3, .int u11.1), (0, .ref (ga G 63)), (1, .ref (ga G 29)), (2, .int a1)]) hx hb dX9_all_71 rfl hl (by decide) rfl (fun ls hl => ?_)
  refine lv_aload_n hx hb dX9_all_72 rfl (lv_at hl 1 rfl) ?_
  refine lv_aload_n hx hb dX9_all_73 rfl (lv_at hl 1 rfl) ?_
  refine ggM_13 X E hP inX9_all_X9 lkX9_all_6 dX9_all_74 ?_
  refine lv_aload_n hx hb dX9_all_77 rfl (lv_at hl 2 rfl) ?_
  refine lv_iload_n hx hb dX9_all_78 rfl (lv_at hl 0 rfl) ?_
  refine lv_iload_n hx hb dX9_all_79 rfl (lv_at hl 3 rfl) ?_
  obtain ⟨u13, h14, hf⟩ := g_bind hf
  refine g_vi (rest := []) X E hP hS (tcX9_carries_13_29 l G _ _ _ h14) (g_cwV X gX9_all_X9_carries rfl hdX9_carries ⟨Nat.le_of_ble_eq_true rfl, Nat.le_of_ble_eq_true rfl⟩) (rcM_model E hP) rfl hl.1 rfl (Nat.le_of_ble_eq_true rfl) dX9_all_80 ⟨Nat.le_refl _, Nat.le_refl _⟩ (fun H locs hP hS => ?_)
  refine lv_istore_n (lv' := [(3, .int u13.1), (0, .ref (ga G 63)), (1, .ref (ga G 29)), (2, .int a1)]) hx hb dX9_all_83 rfl hl (by decide) rfl (fun ls hl => ?_)
  refine lv_aload_n hx hb dX9_all_84 rfl (lv_at hl 1 rfl) ?_
  refine lv_aload_n hx hb dX9_all_85 rfl (lv_at hl 1 rfl) ?_
  refine ggM_14 X E hP inX9_all_X9 lkX9_all_7 dX9_all_86 ?_
  refine lv_aload_n hx hb dX9_all_89 rfl (lv_at hl 2 rfl) ?_
  refine lv_iload_n hx hb dX9_all_90 rfl (lv_at hl 0 rfl) ?_
  refine lv_iload_n hx hb dX9_all_91 rfl (lv_at hl 3 rfl) ?_
  obtain ⟨u15, h16, hf⟩ := g_bind hf
  refine g_vi (rest := []) X E hP hS (tcX9_carries_14_29 l G _ _ _ h16) (g_cwV X gX9_all_X9_carries rfl hdX9_carries ⟨Nat.le_of_ble_eq_true rfl, Nat.le_of_ble_eq_true rfl⟩) (rcM_model E hP) rfl hl.1 rfl (Nat.le_of_ble_eq_true rfl) dX9_all_92 ⟨Nat.le_refl _, Nat.le_refl _⟩ (fun H locs hP hS => ?_)
  refine lv_istore_n (lv' := [(3, .int u15.1), (0, .ref (ga G 63)), (1, .ref (ga G 29)), (2, .int a1)]) hx hb dX9_all_95 rfl hl (by decide) rfl (fun ls hl => ?_)
  refine lv_iload_n hx hb dX9_all_96 rfl (lv_at hl 3 rfl) ?_
  refine lv_if_eq (tgt := 146) hx hb dX9_all_97 (by decide) (fun c17 => ?_) (fun c17 => ?_)
  · have hf := g_ift hf c17
    refine lv_aload_n hx hb dX9_all_146 rfl (lv_at hl 2 rfl) ?_
    refine lv_iload_n hx hb dX9_all_147 rfl (lv_at hl 0 rfl) ?_
    refine lv_aload_n hx hb dX9_all_148 rfl (lv_at hl 1 rfl) ?_
    refine ggM_0 X E hP inX9_all_X9 lkX9_all_8 dX9_all_149 ?_
    obtain ⟨b18, hf⟩ := g_if hf
    refine gsM_29 X E hP hS b18 dX9_all_152 (fun H locs hP hS => ?_)
    refine lv_aload_n hx hb dX9_all_153 rfl (lv_at hl 2 rfl) ?_
    refine lv_iload_n hx hb dX9_all_154 rfl (lv_at hl 0 rfl) ?_
    refine lv_iconst (v := 1) hx hb dX9_all_155 (by decide) ?_
    refine lv_iadd hx hb dX9_all_156 ?_
    refine lv_aload_n hx hb dX9_all_157 rfl (lv_at hl 1 rfl) ?_
    refine ggM_1 X E hP inX9_all_X9 lkX9_all_9 dX9_all_158 ?_
    obtain ⟨b19, hf⟩ := g_if hf
    refine gsM_29 X E hP hS b19 dX9_all_161 (fun H locs hP hS => ?_)
    obtain ⟨T20, e21, hf⟩ := g_let hf
    rw [← e21] at hP
    refine lv_aload_n hx hb dX9_all_162 rfl (lv_at hl 2 rfl) ?_
    refine lv_iload_n hx hb dX9_all_163 rfl (lv_at hl 0 rfl) ?_
    refine lv_iconst (v := 2) hx hb dX9_all_164 (by decide) ?_
    refine lv_iadd hx hb dX9_all_165 ?_
    refine lv_aload_n hx hb dX9_all_166 rfl (lv_at hl 1 rfl) ?_
    refine ggM_2 X E hP inX9_all_X9 lkX9_all_10 dX9_all_167 ?_
    obtain ⟨b22, hf⟩ := g_if hf
    refine gsM_29 X E hP hS b22 dX9_all_170 (fun H locs hP hS => ?_)
    refine lv_aload_n hx hb dX9_all_171 rfl (lv_at hl 2 rfl) ?_
    refine lv_iload_n hx hb dX9_all_172 rfl (lv_at hl 0 rfl) ?_
    refine lv_iconst (v := 3) hx hb dX9_all_173 (by decide) ?_
    refine lv_iadd hx hb dX9_all_174 ?_
    refine lv_aload_n hx hb dX9_all_175 rfl (lv_at hl 1 rfl) ?_
    refine ggM_3 X E hP inX9_all_X9 lkX9_all_11 dX9_all_176 ?_
    obtain ⟨b23, hf⟩ := g_if hf
    refine gsM_29 X E hP hS b23 dX9_all_179 (fun H locs hP hS => ?_)
    obtain ⟨T24, e25, hf⟩ := g_let hf
    rw [← e25] at hP
    refine lv_aload_n hx hb dX9_all_180 rfl (lv_at hl 2 rfl) ?_
    refine lv_iload_n hx hb dX9_all_181 rfl (lv_at hl 0 rfl) ?_
    refine lv_iconst (v := 4) hx hb dX9_all_182 (by decide) ?_
    refine lv_iadd hx hb dX9_all_183 ?_
    refine lv_aload_n hx hb dX9_all_184 rfl (lv_at hl 1 rfl) ?_
    refine ggM_4 X E hP inX9_all_X9 lkX9_all_12 dX9_all_185 ?_
    obtain ⟨b26, hf⟩ := g_if hf
    refine gsM_29 X E hP hS b26 dX9_all_188 (fun H locs hP hS => ?_)
    obtain rfl := g_some hf
    exact g_rv X E hP hS dX9_all_189
  · have hf := g_iff hf c17
    refine lv_aload_n hx hb dX9_all_100 rfl (lv_at hl 1 rfl) ?_
    refine lv_aload_n hx hb dX9_all_101 rfl (lv_at hl 2 rfl) ?_
    refine lv_iload_n hx hb dX9_all_102 rfl (lv_at hl 0 rfl) ?_
    obtain ⟨b27, hf⟩ := g_if hf
    refine giM_29 X E hP b27 dX9_all_103 ?_
    refine gpM_0 X E hP hS inX9_all_X9 lkX9_all_8 dX9_all_104 (fun H locs hP hS => ?_)
    refine lv_aload_n hx hb dX9_all_107 rfl (lv_at hl 1 rfl) ?_
    refine lv_aload_n hx hb dX9_all_108 rfl (lv_at hl 2 rfl) ?_
    refine lv_iload_n hx hb dX9_all_109 rfl (lv_at hl 0 rfl) ?_
    refine lv_iconst (v := 1) hx hb dX9_all_110 (by decide) ?_
    refine lv_iadd hx hb dX9_all_111 ?_
    obtain ⟨b28, hf⟩ := g_if hf
    refine giM_29 X E hP b28 dX9_all_112 ?_
    refine gpM_1 X E hP hS inX9_all_X9 lkX9_all_9 dX9_all_113 (fun H locs hP hS => ?_)
    obtain ⟨T29, e30, hf⟩ := g_let hf
    rw [← e30] at hP
    refine lv_aload_n hx hb dX9_all_116 rfl (lv_at hl 1 rfl) ?_
    refine lv_aload_n hx hb dX9_all_117 rfl (lv_at hl 2 rfl) ?_
    refine lv_iload_n hx hb dX9_all_118 rfl (lv_at hl 0 rfl) ?_
    refine lv_iconst (v := 2) hx hb dX9_all_119 (by decide) ?_
    refine lv_iadd hx hb dX9_all_120 ?_
    obtain ⟨b31, hf⟩ := g_if hf
    refine giM_29 X E hP b31 dX9_all_121 ?_
    refine gpM_2 X E hP hS inX9_all_X9 lkX9_all_10 dX9_all_122 (fun H locs hP hS => ?_)
    refine lv_aload_n hx hb dX9_all_125 rfl (lv_at hl 1 rfl) ?_
    refine lv_aload_n hx hb dX9_all_126 rfl (lv_at hl 2 rfl) ?_
    refine lv_iload_n hx hb dX9_all_127 rfl (lv_at hl 0 rfl) ?_
    refine lv_iconst (v := 3) hx hb dX9_all_128 (by decide) ?_
    refine lv_iadd hx hb dX9_all_129 ?_
    obtain ⟨b32, hf⟩ := g_if hf
    refine giM_29 X E hP b32 dX9_all_130 ?_
    refine gpM_3 X E hP hS inX9_all_X9 lkX9_all_11 dX9_all_131 (fun H locs hP hS => ?_)
    obtain ⟨T33, e34, hf⟩ := g_let hf
    rw [← e34] at hP
    refine lv_aload_n hx hb dX9_all_134 rfl (lv_at hl 1 rfl) ?_
    refine lv_aload_n hx hb dX9_all_135 rfl (lv_at hl 2 rfl) ?_
    refine lv_iload_n hx hb dX9_all_136 rfl (lv_at hl 0 rfl) ?_
    refine lv_iconst (v := 4) hx hb dX9_all_137 (by decide) ?_
    refine lv_iadd hx hb dX9_all_138 ?_
    obtain ⟨b35, hf⟩ := g_if hf
    refine giM_29 X E hP b35 dX9_all_139 ?_
    refine gpM_4 X E hP hS inX9_all_X9 lkX9_all_12 dX9_all_140 (fun H locs hP hS => ?_)
    refine lv_goto (tgt := 189) hx hb dX9_all_143 (by decide) ?_
    obtain rfl := g_some hf
    exact g_rv X E hP hS dX9_all_189
theorem lkX9_stands_0 : Cond.fieldLink RX9 69 RX9 "words" "[I" ∈ wsX9_stands := by decide +kernel
theorem lkX9_stands_1 : Cond.fieldLink RX9 147 RX9 "at" "I" ∈ wsX9_stands := by decide +kernel
theorem lkX9_stands_2 : Cond.fieldLink RX9 150 RX9 "end" "I" ∈ wsX9_stands := by decide +kernel
theorem lkX9_stands_3 : Cond.fieldLink RX9 62 RX9 "cells" "[J" ∈ wsX9_stands := by decide +kernel
theorem lkX9_stands_4 : Cond.fieldLink RX9 153 RX9 "base" "I" ∈ wsX9_stands := by decide +kernel
theorem inX9_stands_X9 : ∀ w ∈ wsX90, w ∈ wsX9_stands := by decide +kernel
def fX9_stands_4 : Nat → GS → Int32 → Int32 → Int32 → Option Int32
  | 0, _, _, _, _ => none
  | fu + 1, S, v1, v2, v3 =>
    if v1 ≤ v3 then
      some v2
    else
      if v2 < 0 ∨ 48 ≤ (v2).toNatClampNeg then none else
      if (S.2.2.1 21 (v2).toNatClampNeg) = 0 then
        fX9_stands_4 fu S v1 (v2 + 1) (v3 + (1 : Int32))
      else
        fX9_stands_4 fu S v1 (v2 + 1) (v3 + (0 : Int32))
set_option maxHeartbeats 4000000 in
set_option maxRecDepth 100000 in
theorem bX9_stands_4 {p : Program} {l : Launch} {e : Env} {s : State} {m : MethodId} {args : Array Value} {below : List Frame} {meth : Method} {c : Code} {Q : State → Prop} {G : GP} (X : GX p s m meth c args cX9_stands 4 (some .boolean) wsX9_stands RX9) (E : gE WM G s)  : ∀ (fu : Nat) (S : GS) (v1 : Int32) (v2 : Int32) (v3 : Int32) (R : Int32) (H : Heap) (locs : List Loc) (ls : Array Slot) (_ : fX9_stands_4 fu S v1 v2 v3 = some R) (_ : va_P (gD G) vwCl (WM G S ++ gF G) H) (_ : va_S (gA G) s.heap H locs) (_ : lv_has ls 4 [(0, .ref (ga G 63)), (1, .int v1), (2, .int v2), (3, .int v3)]) (_ : ∀ (H : Heap) (locs : List Loc) (ls : Array Slot), va_P (gD G) vwCl (WM G S ++ gF G) H → va_S (gA G) s.heap H locs → lv_has ls 4 [(0, .ref (ga G 63)), (2, .int R)] → W p l e (gR 0 0) s m args below meth c H locs 0 0 Q (F0 m 32 ls [])), W p l e (gR 0 0) s m args below meth c H locs 0 0 Q (F0 m 4 ls []) := by
  obtain ⟨hx, hb, -, -, hown, hts, -⟩ := id X
  intro fu
  induction fu with
  | zero =>
    intro S v1 v2 v3 R H locs ls hf
    cases (show (none : Option Int32) = some R from hf)
  | succ fu ih =>
    intro S v1 v2 v3 R H locs ls hf hP hS hl kk
    rw [fX9_stands_4] at hf
    refine lv_iload_n hx hb dX9_stands_4 rfl (lv_at hl 3 rfl) ?_
    refine lv_iload_n hx hb dX9_stands_5 rfl (lv_at hl 1 rfl) ?_
    refine lv_icmp_ge (tgt := 32) hx hb dX9_stands_6 (by decide) (fun c1 => ?_) (fun c1 => ?_)
    · have hf := g_ift hf c1
      obtain rfl := g_some hf
      exact kk _ _ _ hP hS (lv_sub hl [0, 2] rfl)
    · have hf := g_iff hf c1
      refine lv_iload_n hx hb dX9_stands_9 rfl (lv_at hl 3 rfl) ?_
      refine lv_aload_n hx hb dX9_stands_10 rfl (lv_at hl 0 rfl) ?_
      refine ggM_21 X E hP inX9_stands_X9 lkX9_stands_0 dX9_stands_11 ?_
      refine lv_iload_n hx hb dX9_stands_14 rfl (lv_at hl 2 rfl) ?_
      obtain ⟨b2, hf⟩ := g_if hf
      refine giM_21 X E hP b2 dX9_stands_15 ?_
      refine lv_if_ne (tgt := 23) hx hb dX9_stands_16 (by decide) (fun c3 => ?_) (fun c3 => ?_)
      · have hf := g_iff hf c3
        refine lv_iconst (v := 0) hx hb dX9_stands_23 (by decide) ?_
        refine lv_iadd hx hb dX9_stands_24 ?_
        refine lv_istore_n (lv' := [(3, .int (v3 + (0 : Int32))), (0, .ref (ga G 63)), (1, .int v1), (2, .int v2)]) hx hb dX9_stands_25 rfl hl (by decide) rfl (fun ls hl => ?_)
        refine lv_iinc (v := (v2 + 1)) (lv' := [(2, .int (v2 + 1)), (3, .int (v3 + (0 : Int32))), (0, .ref (ga G 63)), (1, .int v1)]) hx hb dX9_stands_26 hl (k := 3) rfl rfl (by decide) rfl (fun ls hl => ?_)
        refine lv_goto (tgt := 4) hx hb dX9_stands_29 (by decide) ?_
        exact ih _ _ _ _ _ _ _ _ hf hP hS (lv_sub hl [2, 3, 0, 1] rfl) kk
      · have hf := g_ift hf c3
        refine lv_iconst (v := 1) hx hb dX9_stands_19 (by decide) ?_
        refine lv_goto (tgt := 24) hx hb dX9_stands_20 (by decide) ?_
        refine lv_iadd hx hb dX9_stands_24 ?_
        refine lv_istore_n (lv' := [(3, .int (v3 + (1 : Int32))), (0, .ref (ga G 63)), (1, .int v1), (2, .int v2)]) hx hb dX9_stands_25 rfl hl (by decide) rfl (fun ls hl => ?_)
        refine lv_iinc (v := (v2 + 1)) (lv' := [(2, .int (v2 + 1)), (3, .int (v3 + (1 : Int32))), (0, .ref (ga G 63)), (1, .int v1)]) hx hb dX9_stands_26 hl (k := 3) rfl rfl (by decide) rfl (fun ls hl => ?_)
        refine lv_goto (tgt := 4) hx hb dX9_stands_29 (by decide) ?_
        exact ih _ _ _ _ _ _ _ _ hf hP hS (lv_sub hl [2, 3, 0, 1] rfl) kk
def fX9_stands_37 : Nat → GS → Int32 → Int32 → Option Int32
  | 0, _, _, _ => none
  | fu + 1, S, v2, v3 =>
    if v2 < 0 ∨ 48 ≤ (v2).toNatClampNeg then none else
    if (S.2.2.1 21 (v2).toNatClampNeg) ≤ (32 : Int32) then
      some v2
    else
      if (S.1 26) ≤ v3 then
        some v2
      else
        if ((S.1 24) + v3) < 0 ∨ 1280 ≤ ((S.1 24) + v3).toNatClampNeg then none else
        if v2 < 0 ∨ 48 ≤ (v2).toNatClampNeg then none else
        if ((S.2.2.2 19 ((S.1 24) + v3).toNatClampNeg)).toInt32 = (S.2.2.1 21 (v2).toNatClampNeg) then
          fX9_stands_37 fu S (v2 + 1) (v3 + 1)
        else
          some v2
set_option maxHeartbeats 4000000 in
set_option maxRecDepth 100000 in
theorem bX9_stands_37 {p : Program} {l : Launch} {e : Env} {s : State} {m : MethodId} {args : Array Value} {below : List Frame} {meth : Method} {c : Code} {Q : State → Prop} {G : GP} (X : GX p s m meth c args cX9_stands 4 (some .boolean) wsX9_stands RX9) (E : gE WM G s)  : ∀ (fu : Nat) (S : GS) (v2 : Int32) (v3 : Int32) (R : Int32) (H : Heap) (locs : List Loc) (ls : Array Slot) (_ : fX9_stands_37 fu S v2 v3 = some R) (_ : va_P (gD G) vwCl (WM G S ++ gF G) H) (_ : va_S (gA G) s.heap H locs) (_ : lv_has ls 4 [(0, .ref (ga G 63)), (2, .int v2), (3, .int v3)]) (_ : ∀ (H : Heap) (locs : List Loc) (ls : Array Slot), va_P (gD G) vwCl (WM G S ++ gF G) H → va_S (gA G) s.heap H locs → lv_has ls 4 [(0, .ref (ga G 63)), (2, .int R)] → W p l e (gR 0 0) s m args below meth c H locs 0 0 Q (F0 m 86 ls [])), W p l e (gR 0 0) s m args below meth c H locs 0 0 Q (F0 m 37 ls []) := by
  obtain ⟨hx, hb, -, -, hown, hts, -⟩ := id X
  intro fu
  induction fu with
  | zero =>
    intro S v2 v3 R H locs ls hf
    cases (show (none : Option Int32) = some R from hf)
  | succ fu ih =>
    intro S v2 v3 R H locs ls hf hP hS hl kk
    rw [fX9_stands_37] at hf
    refine lv_aload_n hx hb dX9_stands_37 rfl (lv_at hl 0 rfl) ?_
    refine ggM_21 X E hP inX9_stands_X9 lkX9_stands_0 dX9_stands_38 ?_
    refine lv_iload_n hx hb dX9_stands_41 rfl (lv_at hl 1 rfl) ?_
    obtain ⟨b6, hf⟩ := g_if hf
    refine giM_21 X E hP b6 dX9_stands_42 ?_
    refine lv_bipush (v := 32) hx hb dX9_stands_43 (by decide) ?_
    refine lv_icmp_le (tgt := 86) hx hb dX9_stands_45 (by decide) (fun c7 => ?_) (fun c7 => ?_)
    · have hf := g_ift hf c7
      obtain rfl := g_some hf
      exact kk _ _ _ hP hS (lv_sub hl [0, 1] rfl)
    · have hf := g_iff hf c7
      refine lv_iload_n hx hb dX9_stands_48 rfl (lv_at hl 2 rfl) ?_
      refine lv_aload_n hx hb dX9_stands_49 rfl (lv_at hl 0 rfl) ?_
      refine ggM_26 X E hP inX9_stands_X9 lkX9_stands_2 dX9_stands_50 ?_
      refine lv_icmp_ge (tgt := 86) hx hb dX9_stands_53 (by decide) (fun c8 => ?_) (fun c8 => ?_)
      · have hf := g_ift hf c8
        obtain rfl := g_some hf
        exact kk _ _ _ hP hS (lv_sub hl [0, 1] rfl)
      · have hf := g_iff hf c8
        refine lv_aload_n hx hb dX9_stands_56 rfl (lv_at hl 0 rfl) ?_
        refine ggM_19 X E hP inX9_stands_X9 lkX9_stands_3 dX9_stands_57 ?_
        refine lv_aload_n hx hb dX9_stands_60 rfl (lv_at hl 0 rfl) ?_
        refine ggM_24 X E hP inX9_stands_X9 lkX9_stands_4 dX9_stands_61 ?_
        refine lv_iload_n hx hb dX9_stands_64 rfl (lv_at hl 2 rfl) ?_
        refine lv_iadd hx hb dX9_stands_65 ?_
        obtain ⟨b9, hf⟩ := g_if hf
        refine giM_19 X E hP b9 dX9_stands_66 ?_
        refine lv_l2i hx hb dX9_stands_67 rfl ?_
        refine lv_aload_n hx hb dX9_stands_68 rfl (lv_at hl 0 rfl) ?_
        refine ggM_21 X E hP inX9_stands_X9 lkX9_stands_0 dX9_stands_69 ?_
        refine lv_iload_n hx hb dX9_stands_72 rfl (lv_at hl 1 rfl) ?_
        obtain ⟨b10, hf⟩ := g_if hf
        refine giM_21 X E hP b10 dX9_stands_73 ?_
        refine lv_icmp_ne (tgt := 86) hx hb dX9_stands_74 (by decide) (fun c11 => ?_) (fun c11 => ?_)
        · have hf := g_iff hf c11
          obtain rfl := g_some hf
          exact kk _ _ _ hP hS (lv_sub hl [0, 1] rfl)
        · have hf := g_ift hf c11
          refine lv_iinc (v := (v3 + 1)) (lv' := [(3, .int (v3 + 1)), (0, .ref (ga G 63)), (2, .int v2)]) hx hb dX9_stands_77 hl (k := 2) rfl rfl (by decide) rfl (fun ls hl => ?_)
          refine lv_iinc (v := (v2 + 1)) (lv' := [(2, .int (v2 + 1)), (3, .int (v3 + 1)), (0, .ref (ga G 63))]) hx hb dX9_stands_80 hl (k := 2) rfl rfl (by decide) rfl (fun ls hl => ?_)
          refine lv_goto (tgt := 37) hx hb dX9_stands_83 (by decide) ?_
          exact ih _ _ _ _ _ _ _ hf hP hS (lv_sub hl [2, 0, 1] rfl) kk
def fX9_stands_L86 (S : GS) (v2 : Int32) : Option Int32 :=
  if v2 < 0 ∨ 48 ≤ (v2).toNatClampNeg then none else
  if (32 : Int32) < (S.2.2.1 21 (v2).toNatClampNeg) then
    some (0 : Int32)
  else
    some (1 : Int32)
set_option maxHeartbeats 4000000 in
set_option maxRecDepth 100000 in
theorem bX9_stands_L86 {p : Program} {l : Launch} {e : Env} {s : State} {m : MethodId} {args : Array Value} {below : List Frame} {meth : Method} {c : Code} {G : GP} (X : GX p s m meth c args cX9_stands 4 (some .boolean) wsX9_stands RX9) (E : gE WM G s) (S : GS) (v2 : Int32) (R : Int32) (H : Heap) (locs : List Loc) (ls : Array Slot) (hf : fX9_stands_L86 S v2 = some R) (hP : va_P (gD G) vwCl (WM G S ++ gF G) H) (hS : va_S (gA G) s.heap H locs) (hl : lv_has ls 4 [(0, .ref (ga G 63)), (2, .int v2)]) : W p l e (gR 0 0) s m args below meth c H locs 0 0 (MQ below (gQi WM G R S) args s 0 0 (gA G)) (F0 m 86 ls []) := by
  obtain ⟨hx, hb, -, -, hown, hts, -⟩ := id X
  rw [fX9_stands_L86] at hf
  refine lv_aload_n hx hb dX9_stands_86 rfl (lv_at hl 0 rfl) ?_
  refine ggM_21 X E hP inX9_stands_X9 lkX9_stands_0 dX9_stands_87 ?_
  refine lv_iload_n hx hb dX9_stands_90 rfl (lv_at hl 1 rfl) ?_
  obtain ⟨b14, hf⟩ := g_if hf
  refine giM_21 X E hP b14 dX9_stands_91 ?_
  refine lv_bipush (v := 32) hx hb dX9_stands_92 (by decide) ?_
  refine lv_icmp_gt (tgt := 101) hx hb dX9_stands_94 (by decide) (fun c15 => ?_) (fun c15 => ?_)
  · have hf := g_ift hf c15
    refine lv_iconst (v := 0) hx hb dX9_stands_101 (by decide) ?_
    obtain rfl := g_some hf
    exact g_rz (v := (0 : Int32)) X E hP hS rfl dX9_stands_102
  · have hf := g_iff hf c15
    refine lv_iconst (v := 1) hx hb dX9_stands_97 (by decide) ?_
    refine lv_goto (tgt := 102) hx hb dX9_stands_98 (by decide) ?_
    obtain rfl := g_some hf
    exact g_rz (v := (1 : Int32)) X E hP hS rfl dX9_stands_102
def fX9_stands (S : GS) (a1 : Int32) : Option Int32 :=
  (fX9_stands_4 gFuel S a1 (0 : Int32) (0 : Int32)).bind fun u4 =>
  (fX9_stands_37 gFuel S u4 (S.1 25)).bind fun u12 =>
  fX9_stands_L86 S u12
set_option maxHeartbeats 4000000 in
set_option maxRecDepth 100000 in
theorem tcX9_stands (l : Launch) (G : GP) (S : GS) (a1 : Int32) {R : Int32} (hf : fX9_stands S a1 = some R) : CI l yX9_stands wsX9_stands 0 0 [.ref (ga G 63), .int a1] WM G S R S := by
  refine g_met RX9 (cc := cX9_stands) (nL := 4) (ret := (some .boolean)) (by decide) rfl rfl (Nat.le_of_ble_eq_true rfl) ?_
  intro p e s m below meth c ls X E hP hS hl
  have hl : lv_has ls 4 [(0, .ref (ga G 63)), (1, .int a1)] := hl
  obtain ⟨hx, hb, -, -, hown, hts, -⟩ := id X
  rw [fX9_stands] at hf
  refine lv_iconst (v := 0) hx hb dX9_stands_0 (by decide) ?_
  refine lv_istore_n (lv' := [(2, .int (0 : Int32)), (0, .ref (ga G 63)), (1, .int a1)]) hx hb dX9_stands_1 rfl hl (by decide) rfl (fun ls hl => ?_)
  refine lv_iconst (v := 0) hx hb dX9_stands_2 (by decide) ?_
  refine lv_istore_n (lv' := [(3, .int (0 : Int32)), (2, .int (0 : Int32)), (0, .ref (ga G 63)), (1, .int a1)]) hx hb dX9_stands_3 rfl hl (by decide) rfl (fun ls hl => ?_)
  obtain ⟨u4, h5, hf⟩ := g_bind hf
  refine bX9_stands_4 X E gFuel _ _ _ _ u4 _ _ _ h5 hP hS (lv_sub hl [2, 3, 1, 0] rfl) (fun H locs ls hP hS hl => ?_)
  have hl : lv_has ls 4 [(0, .ref (ga G 63)), (2, .int u4)] := hl
  refine lv_aload_n hx hb dX9_stands_32 rfl (lv_at hl 0 rfl) ?_
  refine ggM_25 X E hP inX9_stands_X9 lkX9_stands_1 dX9_stands_33 ?_
  refine lv_istore_n (lv' := [(3, .int (S.1 25)), (0, .ref (ga G 63)), (2, .int u4)]) hx hb dX9_stands_36 rfl hl (by decide) rfl (fun ls hl => ?_)
  obtain ⟨u12, h13, hf⟩ := g_bind hf
  refine bX9_stands_37 X E gFuel _ _ _ u12 _ _ _ h13 hP hS (lv_sub hl [1, 2, 0] rfl) (fun H locs ls hP hS hl => ?_)
  have hl : lv_has ls 4 [(0, .ref (ga G 63)), (2, .int u12)] := hl
  exact bX9_stands_L86 X E _ _ _ _ _ _ hf hP hS (lv_sub hl [0, 1] rfl)
theorem lkX9_word_0 : Cond.fieldLink RX9 147 RX9 "at" "I" ∈ wsX9_word := by decide +kernel
theorem lkX9_word_1 : Cond.fieldLink RX9 144 RX9 "wrongAt" "I" ∈ wsX9_word := by decide +kernel
theorem lkX9_word_2 : Cond.fieldLink RX9 69 RX9 "words" "[I" ∈ wsX9_word := by decide +kernel
theorem lkX9_word_3 : Cond.fieldLink RX9 150 RX9 "end" "I" ∈ wsX9_word := by decide +kernel
theorem lkX9_word_4 : Cond.fieldLink RX9 62 RX9 "cells" "[J" ∈ wsX9_word := by decide +kernel
theorem lkX9_word_5 : Cond.fieldLink RX9 153 RX9 "base" "I" ∈ wsX9_word := by decide +kernel
theorem inX9_word_X9 : ∀ w ∈ wsX90, w ∈ wsX9_word := by decide +kernel
def fX9_word_24 : Nat → GS → Int32 → Int32 → Option (Int32 × Int32)
  | 0, _, _, _ => none
  | fu + 1, S, v4, v5 =>
    if v5 < 0 ∨ 48 ≤ (v5).toNatClampNeg then none else
    if (S.2.2.1 21 (v5).toNatClampNeg) = 0 then
      some (v4, v5)
    else
      if (S.1 26) ≤ v4 then
        some (v4, v5)
      else
        if ((S.1 24) + v4) < 0 ∨ 1280 ≤ ((S.1 24) + v4).toNatClampNeg then none else
        if v5 < 0 ∨ 48 ≤ (v5).toNatClampNeg then none else
        if ((S.2.2.2 19 ((S.1 24) + v4).toNatClampNeg)).toInt32 = (S.2.2.1 21 (v5).toNatClampNeg) then
          fX9_word_24 fu S (v4 + 1) (v5 + 1)
        else
          some (v4, v5)
set_option maxHeartbeats 4000000 in
set_option maxRecDepth 100000 in
theorem bX9_word_24 {p : Program} {l : Launch} {e : Env} {s : State} {m : MethodId} {args : Array Value} {below : List Frame} {meth : Method} {c : Code} {Q : State → Prop} {G : GP} (X : GX p s m meth c args cX9_word 6 (some .int) wsX9_word RX9) (E : gE WM G s) {v1 : Int32} {v2 : Int32} {v3 : Int32} : ∀ (fu : Nat) (S : GS) (v4 : Int32) (v5 : Int32) (R : (Int32 × Int32)) (H : Heap) (locs : List Loc) (ls : Array Slot) (_ : fX9_word_24 fu S v4 v5 = some R) (_ : va_P (gD G) vwCl (WM G S ++ gF G) H) (_ : va_S (gA G) s.heap H locs) (_ : lv_has ls 6 [(0, .ref (ga G 63)), (1, .int v1), (2, .int v2), (3, .int v3), (4, .int v4), (5, .int v5)]) (_ : ∀ (H : Heap) (locs : List Loc) (ls : Array Slot), va_P (gD G) vwCl (WM G S ++ gF G) H → va_S (gA G) s.heap H locs → lv_has ls 6 [(0, .ref (ga G 63)), (1, .int v1), (2, .int v2), (3, .int v3), (4, .int R.1), (5, .int R.2)] → W p l e (gR 0 0) s m args below meth c H locs 0 0 Q (F0 m 75 ls [])), W p l e (gR 0 0) s m args below meth c H locs 0 0 Q (F0 m 24 ls []) := by
  obtain ⟨hx, hb, -, -, hown, hts, -⟩ := id X
  intro fu
  induction fu with
  | zero =>
    intro S v4 v5 R H locs ls hf
    cases (show (none : Option (Int32 × Int32)) = some R from hf)
  | succ fu ih =>
    intro S v4 v5 R H locs ls hf hP hS hl kk
    rw [fX9_word_24] at hf
    refine lv_aload_n hx hb dX9_word_24 rfl (lv_at hl 0 rfl) ?_
    refine ggM_21 X E hP inX9_word_X9 lkX9_word_2 dX9_word_25 ?_
    refine lv_iload hx hb dX9_word_28 (lv_at hl 5 rfl) ?_
    obtain ⟨b2, hf⟩ := g_if hf
    refine giM_21 X E hP b2 dX9_word_30 ?_
    refine lv_if_eq (tgt := 75) hx hb dX9_word_31 (by decide) (fun c3 => ?_) (fun c3 => ?_)
    · have hf := g_ift hf c3
      obtain rfl := g_some hf
      exact kk _ _ _ hP hS (lv_sub hl [0, 1, 2, 3, 4, 5] rfl)
    · have hf := g_iff hf c3
      refine lv_iload hx hb dX9_word_34 (lv_at hl 4 rfl) ?_
      refine lv_aload_n hx hb dX9_word_36 rfl (lv_at hl 0 rfl) ?_
      refine ggM_26 X E hP inX9_word_X9 lkX9_word_3 dX9_word_37 ?_
      refine lv_icmp_ge (tgt := 75) hx hb dX9_word_40 (by decide) (fun c4 => ?_) (fun c4 => ?_)
      · have hf := g_ift hf c4
        obtain rfl := g_some hf
        exact kk _ _ _ hP hS (lv_sub hl [0, 1, 2, 3, 4, 5] rfl)
      · have hf := g_iff hf c4
        refine lv_aload_n hx hb dX9_word_43 rfl (lv_at hl 0 rfl) ?_
        refine ggM_19 X E hP inX9_word_X9 lkX9_word_4 dX9_word_44 ?_
        refine lv_aload_n hx hb dX9_word_47 rfl (lv_at hl 0 rfl) ?_
        refine ggM_24 X E hP inX9_word_X9 lkX9_word_5 dX9_word_48 ?_
        refine lv_iload hx hb dX9_word_51 (lv_at hl 4 rfl) ?_
        refine lv_iadd hx hb dX9_word_53 ?_
        obtain ⟨b5, hf⟩ := g_if hf
        refine giM_19 X E hP b5 dX9_word_54 ?_
        refine lv_l2i hx hb dX9_word_55 rfl ?_
        refine lv_aload_n hx hb dX9_word_56 rfl (lv_at hl 0 rfl) ?_
        refine ggM_21 X E hP inX9_word_X9 lkX9_word_2 dX9_word_57 ?_
        refine lv_iload hx hb dX9_word_60 (lv_at hl 5 rfl) ?_
        obtain ⟨b6, hf⟩ := g_if hf
        refine giM_21 X E hP b6 dX9_word_62 ?_
        refine lv_icmp_ne (tgt := 75) hx hb dX9_word_63 (by decide) (fun c7 => ?_) (fun c7 => ?_)
        · have hf := g_iff hf c7
          obtain rfl := g_some hf
          exact kk _ _ _ hP hS (lv_sub hl [0, 1, 2, 3, 4, 5] rfl)
        · have hf := g_ift hf c7
          refine lv_iinc (v := (v4 + 1)) (lv' := [(4, .int (v4 + 1)), (0, .ref (ga G 63)), (1, .int v1), (2, .int v2), (3, .int v3), (5, .int v5)]) hx hb dX9_word_66 hl (k := 4) rfl rfl (by decide) rfl (fun ls hl => ?_)
          refine lv_iinc (v := (v5 + 1)) (lv' := [(5, .int (v5 + 1)), (4, .int (v4 + 1)), (0, .ref (ga G 63)), (1, .int v1), (2, .int v2), (3, .int v3)]) hx hb dX9_word_69 hl (k := 5) rfl rfl (by decide) rfl (fun ls hl => ?_)
          refine lv_goto (tgt := 24) hx hb dX9_word_72 (by decide) ?_
          exact ih _ _ _ _ _ _ _ hf hP hS (lv_sub hl [2, 3, 4, 5, 1, 0] rfl) kk
def fX9_word_106 : Nat → GS → Int32 → Option Int32
  | 0, _, _ => none
  | fu + 1, S, v1 =>
    if v1 < 0 ∨ 48 ≤ (v1).toNatClampNeg then none else
    if (S.2.2.1 21 (v1).toNatClampNeg) = 0 then
      some v1
    else
      fX9_word_106 fu S (v1 + 1)
set_option maxHeartbeats 4000000 in
set_option maxRecDepth 100000 in
theorem bX9_word_106 {p : Program} {l : Launch} {e : Env} {s : State} {m : MethodId} {args : Array Value} {below : List Frame} {meth : Method} {c : Code} {Q : State → Prop} {G : GP} (X : GX p s m meth c args cX9_word 6 (some .int) wsX9_word RX9) (E : gE WM G s) {v2 : Int32} {v3 : Int32} : ∀ (fu : Nat) (S : GS) (v1 : Int32) (R : Int32) (H : Heap) (locs : List Loc) (ls : Array Slot) (_ : fX9_word_106 fu S v1 = some R) (_ : va_P (gD G) vwCl (WM G S ++ gF G) H) (_ : va_S (gA G) s.heap H locs) (_ : lv_has ls 6 [(0, .ref (ga G 63)), (1, .int v1), (2, .int v2), (3, .int v3)]) (_ : ∀ (H : Heap) (locs : List Loc) (ls : Array Slot), va_P (gD G) vwCl (WM G S ++ gF G) H → va_S (gA G) s.heap H locs → lv_has ls 6 [(0, .ref (ga G 63)), (1, .int R), (2, .int v2), (3, .int v3)] → W p l e (gR 0 0) s m args below meth c H locs 0 0 Q (F0 m 121 ls [])), W p l e (gR 0 0) s m args below meth c H locs 0 0 Q (F0 m 106 ls []) := by
  obtain ⟨hx, hb, -, -, hown, hts, -⟩ := id X
  intro fu
  induction fu with
  | zero =>
    intro S v1 R H locs ls hf
    cases (show (none : Option Int32) = some R from hf)
  | succ fu ih =>
    intro S v1 R H locs ls hf hP hS hl kk
    rw [fX9_word_106] at hf
    refine lv_aload_n hx hb dX9_word_106 rfl (lv_at hl 0 rfl) ?_
    refine ggM_21 X E hP inX9_word_X9 lkX9_word_2 dX9_word_107 ?_
    refine lv_iload_n hx hb dX9_word_110 rfl (lv_at hl 1 rfl) ?_
    obtain ⟨b13, hf⟩ := g_if hf
    refine giM_21 X E hP b13 dX9_word_111 ?_
    refine lv_if_eq (tgt := 121) hx hb dX9_word_112 (by decide) (fun c14 => ?_) (fun c14 => ?_)
    · have hf := g_ift hf c14
      obtain rfl := g_some hf
      exact kk _ _ _ hP hS (lv_sub hl [0, 1, 2, 3] rfl)
    · have hf := g_iff hf c14
      refine lv_iinc (v := (v1 + 1)) (lv' := [(1, .int (v1 + 1)), (0, .ref (ga G 63)), (2, .int v2), (3, .int v3)]) hx hb dX9_word_115 hl (k := 1) rfl rfl (by decide) rfl (fun ls hl => ?_)
      refine lv_goto (tgt := 106) hx hb dX9_word_118 (by decide) ?_
      exact ih _ _ _ _ _ _ hf hP hS (lv_sub hl [1, 0, 2, 3] rfl) kk
def fX9_word_9 : Nat → GS → Int32 → Int32 → Int32 → Option (Int32 × GS)
  | 0, _, _, _, _ => none
  | fu + 1, S, v1, v2, v3 =>
    if (7 : Int32) ≤ v3 then
      some ((-1 : Int32), (gU1 S 28 v2))
    else
      (fX9_word_24 gFuel S (S.1 25) v1).bind fun u8 =>
      if u8.2 < 0 ∨ 48 ≤ (u8.2).toNatClampNeg then none else
      if (S.2.2.1 21 (u8.2).toNatClampNeg) = 0 then
        some (v3, (gU1 S 25 u8.1))
      else
        if u8.1 ≤ v2 then
          (fX9_word_106 gFuel S v1).bind fun u15 =>
          fX9_word_9 fu S (u15 + 1) v2 (v3 + 1)
        else
          (fX9_word_106 gFuel S v1).bind fun u17 =>
          fX9_word_9 fu S (u17 + 1) u8.1 (v3 + 1)
set_option maxHeartbeats 4000000 in
set_option maxRecDepth 100000 in
theorem bX9_word_9 {p : Program} {l : Launch} {e : Env} {s : State} {m : MethodId} {args : Array Value} {below : List Frame} {meth : Method} {c : Code} {G : GP} (X : GX p s m meth c args cX9_word 6 (some .int) wsX9_word RX9) (E : gE WM G s)  : ∀ (fu : Nat) (S : GS) (v1 : Int32) (v2 : Int32) (v3 : Int32) (R : (Int32 × GS)) (H : Heap) (locs : List Loc) (ls : Array Slot) (_ : fX9_word_9 fu S v1 v2 v3 = some R) (_ : va_P (gD G) vwCl (WM G S ++ gF G) H) (_ : va_S (gA G) s.heap H locs) (_ : lv_has ls 6 [(0, .ref (ga G 63)), (1, .int v1), (2, .int v2), (3, .int v3)]), W p l e (gR 0 0) s m args below meth c H locs 0 0 (MQ below (gQi WM G R.1 R.2) args s 0 0 (gA G)) (F0 m 9 ls []) := by
  obtain ⟨hx, hb, -, -, hown, hts, -⟩ := id X
  intro fu
  induction fu with
  | zero =>
    intro S v1 v2 v3 R H locs ls hf
    cases (show (none : Option (Int32 × GS)) = some R from hf)
  | succ fu ih =>
    intro S v1 v2 v3 R H locs ls hf hP hS hl
    rw [fX9_word_9] at hf
    refine lv_iload_n hx hb dX9_word_9 rfl (lv_at hl 3 rfl) ?_
    refine lv_bipush (v := 7) hx hb dX9_word_10 (by decide) ?_
    refine lv_icmp_ge (tgt := 130) hx hb dX9_word_12 (by decide) (fun c1 => ?_) (fun c1 => ?_)
    · have hf := g_ift hf c1
      refine lv_aload_n hx hb dX9_word_130 rfl (lv_at hl 0 rfl) ?_
      refine lv_iload_n hx hb dX9_word_131 rfl (lv_at hl 2 rfl) ?_
      refine gpM_28 X E hP hS inX9_word_X9 lkX9_word_1 dX9_word_132 (fun H locs hP hS => ?_)
      refine lv_iconst (v := -1) hx hb dX9_word_135 (by decide) ?_
      obtain rfl := g_some hf
      exact g_ri X E hP hS dX9_word_136
    · have hf := g_iff hf c1
      refine lv_aload_n hx hb dX9_word_15 rfl (lv_at hl 0 rfl) ?_
      refine ggM_25 X E hP inX9_word_X9 lkX9_word_0 dX9_word_16 ?_
      refine lv_istore (lv' := [(4, .int (S.1 25)), (0, .ref (ga G 63)), (1, .int v1), (2, .int v2), (3, .int v3)]) hx hb dX9_word_19 hl (by decide) rfl (fun ls hl => ?_)
      refine lv_iload_n hx hb dX9_word_21 rfl (lv_at hl 2 rfl) ?_
      refine lv_istore (lv' := [(5, .int v1), (4, .int (S.1 25)), (0, .ref (ga G 63)), (1, .int v1), (2, .int v2), (3, .int v3)]) hx hb dX9_word_22 hl (by decide) rfl (fun ls hl => ?_)
      obtain ⟨u8, h9, hf⟩ := g_bind hf
      refine bX9_word_24 X E gFuel _ _ _ u8 _ _ _ h9 hP hS (lv_sub hl [2, 3, 4, 5, 1, 0] rfl) (fun H locs ls hP hS hl => ?_)
      have hl : lv_has ls 6 [(0, .ref (ga G 63)), (1, .int v1), (2, .int v2), (3, .int v3), (4, .int u8.1), (5, .int u8.2)] := hl
      refine lv_aload_n hx hb dX9_word_75 rfl (lv_at hl 0 rfl) ?_
      refine ggM_21 X E hP inX9_word_X9 lkX9_word_2 dX9_word_76 ?_
      refine lv_iload hx hb dX9_word_79 (lv_at hl 5 rfl) ?_
      obtain ⟨b10, hf⟩ := g_if hf
      refine giM_21 X E hP b10 dX9_word_81 ?_
      refine lv_if_ne (tgt := 93) hx hb dX9_word_82 (by decide) (fun c11 => ?_) (fun c11 => ?_)
      · have hf := g_iff hf c11
        refine lv_iload hx hb dX9_word_93 (lv_at hl 4 rfl) ?_
        refine lv_iload_n hx hb dX9_word_95 rfl (lv_at hl 2 rfl) ?_
        refine lv_icmp_le (tgt := 104) hx hb dX9_word_96 (by decide) (fun c12 => ?_) (fun c12 => ?_)
        · have hf := g_ift hf c12
          refine lv_iload_n hx hb dX9_word_104 rfl (lv_at hl 2 rfl) ?_
          refine lv_istore_n (lv' := [(2, .int v2), (0, .ref (ga G 63)), (1, .int v1), (3, .int v3), (4, .int u8.1), (5, .int u8.2)]) hx hb dX9_word_105 rfl hl (by decide) rfl (fun ls hl => ?_)
          obtain ⟨u15, h16, hf⟩ := g_bind hf
          refine bX9_word_106 X E gFuel _ _ u15 _ _ _ h16 hP hS (lv_sub hl [1, 2, 0, 3] rfl) (fun H locs ls hP hS hl => ?_)
          have hl : lv_has ls 6 [(0, .ref (ga G 63)), (1, .int u15), (2, .int v2), (3, .int v3)] := hl
          refine lv_iinc (v := (u15 + 1)) (lv' := [(1, .int (u15 + 1)), (0, .ref (ga G 63)), (2, .int v2), (3, .int v3)]) hx hb dX9_word_121 hl (k := 1) rfl rfl (by decide) rfl (fun ls hl => ?_)
          refine lv_iinc (v := (v3 + 1)) (lv' := [(3, .int (v3 + 1)), (1, .int (u15 + 1)), (0, .ref (ga G 63)), (2, .int v2)]) hx hb dX9_word_124 hl (k := 3) rfl rfl (by decide) rfl (fun ls hl => ?_)
          refine lv_goto (tgt := 9) hx hb dX9_word_127 (by decide) ?_
          exact ih _ _ _ _ _ _ _ _ hf hP hS (lv_sub hl [2, 1, 3, 0] rfl)
        · have hf := g_iff hf c12
          refine lv_iload hx hb dX9_word_99 (lv_at hl 4 rfl) ?_
          refine lv_goto (tgt := 105) hx hb dX9_word_101 (by decide) ?_
          refine lv_istore_n (lv' := [(2, .int u8.1), (0, .ref (ga G 63)), (1, .int v1), (3, .int v3), (4, .int u8.1), (5, .int u8.2)]) hx hb dX9_word_105 rfl hl (by decide) rfl (fun ls hl => ?_)
          obtain ⟨u17, h18, hf⟩ := g_bind hf
          refine bX9_word_106 X E gFuel _ _ u17 _ _ _ h18 hP hS (lv_sub hl [1, 2, 0, 3] rfl) (fun H locs ls hP hS hl => ?_)
          have hl : lv_has ls 6 [(0, .ref (ga G 63)), (1, .int u17), (2, .int u8.1), (3, .int v3)] := hl
          refine lv_iinc (v := (u17 + 1)) (lv' := [(1, .int (u17 + 1)), (0, .ref (ga G 63)), (2, .int u8.1), (3, .int v3)]) hx hb dX9_word_121 hl (k := 1) rfl rfl (by decide) rfl (fun ls hl => ?_)
          refine lv_iinc (v := (v3 + 1)) (lv' := [(3, .int (v3 + 1)), (1, .int (u17 + 1)), (0, .ref (ga G 63)), (2, .int u8.1)]) hx hb dX9_word_124 hl (k := 3) rfl rfl (by decide) rfl (fun ls hl => ?_)
          refine lv_goto (tgt := 9) hx hb dX9_word_127 (by decide) ?_
          exact ih _ _ _ _ _ _ _ _ hf hP hS (lv_sub hl [2, 1, 3, 0] rfl)
      · have hf := g_ift hf c11
        refine lv_aload_n hx hb dX9_word_85 rfl (lv_at hl 0 rfl) ?_
        refine lv_iload hx hb dX9_word_86 (lv_at hl 4 rfl) ?_
        refine gpM_25 X E hP hS inX9_word_X9 lkX9_word_0 dX9_word_88 (fun H locs hP hS => ?_)
        refine lv_iload_n hx hb dX9_word_91 rfl (lv_at hl 3 rfl) ?_
        obtain rfl := g_some hf
        exact g_ri X E hP hS dX9_word_92
def fX9_word (S : GS)  : Option (Int32 × GS) :=
  fX9_word_9 gFuel S (0 : Int32) (S.1 25) (0 : Int32)
set_option maxHeartbeats 4000000 in
set_option maxRecDepth 100000 in
theorem tcX9_word (l : Launch) (G : GP) (S : GS)  {R : (Int32 × GS)} (hf : fX9_word S  = some R) : CI l yX9_word wsX9_word 0 0 [.ref (ga G 63)] WM G S R.1 R.2 := by
  refine g_met RX9 (cc := cX9_word) (nL := 6) (ret := (some .int)) (by decide) rfl rfl (Nat.le_of_ble_eq_true rfl) ?_
  intro p e s m below meth c ls X E hP hS hl
  have hl : lv_has ls 6 [(0, .ref (ga G 63))] := hl
  obtain ⟨hx, hb, -, -, hown, hts, -⟩ := id X
  rw [fX9_word] at hf
  refine lv_iconst (v := 0) hx hb dX9_word_0 (by decide) ?_
  refine lv_istore_n (lv' := [(1, .int (0 : Int32)), (0, .ref (ga G 63))]) hx hb dX9_word_1 rfl hl (by decide) rfl (fun ls hl => ?_)
  refine lv_aload_n hx hb dX9_word_2 rfl (lv_at hl 1 rfl) ?_
  refine ggM_25 X E hP inX9_word_X9 lkX9_word_0 dX9_word_3 ?_
  refine lv_istore_n (lv' := [(2, .int (S.1 25)), (1, .int (0 : Int32)), (0, .ref (ga G 63))]) hx hb dX9_word_6 rfl hl (by decide) rfl (fun ls hl => ?_)
  refine lv_iconst (v := 0) hx hb dX9_word_7 (by decide) ?_
  refine lv_istore_n (lv' := [(3, .int (0 : Int32)), (2, .int (S.1 25)), (1, .int (0 : Int32)), (0, .ref (ga G 63))]) hx hb dX9_word_8 rfl hl (by decide) rfl (fun ls hl => ?_)
  exact bX9_word_9 X E gFuel _ _ _ _ _ _ _ _ hf hP hS (lv_sub hl [3, 2, 1, 0] rfl)
theorem lkX9_isDigit_0 : Cond.fieldLink RX9 147 RX9 "at" "I" ∈ wsX9_isDigit := by decide +kernel
theorem lkX9_isDigit_1 : Cond.fieldLink RX9 150 RX9 "end" "I" ∈ wsX9_isDigit := by decide +kernel
theorem lkX9_isDigit_2 : Cond.fieldLink RX9 62 RX9 "cells" "[J" ∈ wsX9_isDigit := by decide +kernel
theorem lkX9_isDigit_3 : Cond.fieldLink RX9 153 RX9 "base" "I" ∈ wsX9_isDigit := by decide +kernel
theorem inX9_isDigit_X9 : ∀ w ∈ wsX90, w ∈ wsX9_isDigit := by decide +kernel
def fX9_isDigit (S : GS)  : Option Int32 :=
  if (S.1 26) ≤ (S.1 25) then
    some (0 : Int32)
  else
    if ((S.1 24) + (S.1 25)) < 0 ∨ 1280 ≤ ((S.1 24) + (S.1 25)).toNatClampNeg then none else
    if ((S.2.2.2 19 ((S.1 24) + (S.1 25)).toNatClampNeg)).toInt32 < (48 : Int32) then
      some (0 : Int32)
    else
      if ((S.1 24) + (S.1 25)) < 0 ∨ 1280 ≤ ((S.1 24) + (S.1 25)).toNatClampNeg then none else
      if (57 : Int32) < ((S.2.2.2 19 ((S.1 24) + (S.1 25)).toNatClampNeg)).toInt32 then
        some (0 : Int32)
      else
        some (1 : Int32)
set_option maxHeartbeats 4000000 in
set_option maxRecDepth 100000 in
theorem tcX9_isDigit (l : Launch) (G : GP) (S : GS)  {R : Int32} (hf : fX9_isDigit S  = some R) : CI l yX9_isDigit wsX9_isDigit 0 0 [.ref (ga G 63)] WM G S R S := by
  refine g_met RX9 (cc := cX9_isDigit) (nL := 1) (ret := (some .boolean)) (by decide) rfl rfl (Nat.le_of_ble_eq_true rfl) ?_
  intro p e s m below meth c ls X E hP hS hl
  have hl : lv_has ls 1 [(0, .ref (ga G 63))] := hl
  obtain ⟨hx, hb, -, -, hown, hts, -⟩ := id X
  rw [fX9_isDigit] at hf
  refine lv_aload_n hx hb dX9_isDigit_0 rfl (lv_at hl 0 rfl) ?_
  refine ggM_25 X E hP inX9_isDigit_X9 lkX9_isDigit_0 dX9_isDigit_1 ?_
  refine lv_aload_n hx hb dX9_isDigit_4 rfl (lv_at hl 0 rfl) ?_
  refine ggM_26 X E hP inX9_isDigit_X9 lkX9_isDigit_1 dX9_isDigit_5 ?_
  refine lv_icmp_ge (tgt := 55) hx hb dX9_isDigit_8 (by decide) (fun c1 => ?_) (fun c1 => ?_)
  · have hf := g_ift hf c1
    refine lv_iconst (v := 0) hx hb dX9_isDigit_55 (by decide) ?_
    obtain rfl := g_some hf
    exact g_rz (v := (0 : Int32)) X E hP hS rfl dX9_isDigit_56
  · have hf := g_iff hf c1
    refine lv_aload_n hx hb dX9_isDigit_11 rfl (lv_at hl 0 rfl) ?_
    refine ggM_19 X E hP inX9_isDigit_X9 lkX9_isDigit_2 dX9_isDigit_12 ?_
    refine lv_aload_n hx hb dX9_isDigit_15 rfl (lv_at hl 0 rfl) ?_
    refine ggM_24 X E hP inX9_isDigit_X9 lkX9_isDigit_3 dX9_isDigit_16 ?_
    refine lv_aload_n hx hb dX9_isDigit_19 rfl (lv_at hl 0 rfl) ?_
    refine ggM_25 X E hP inX9_isDigit_X9 lkX9_isDigit_0 dX9_isDigit_20 ?_
    refine lv_iadd hx hb dX9_isDigit_23 ?_
    obtain ⟨b2, hf⟩ := g_if hf
    refine giM_19 X E hP b2 dX9_isDigit_24 ?_
    refine lv_l2i hx hb dX9_isDigit_25 rfl ?_
    refine lv_bipush (v := 48) hx hb dX9_isDigit_26 (by decide) ?_
    refine lv_icmp_lt (tgt := 55) hx hb dX9_isDigit_28 (by decide) (fun c3 => ?_) (fun c3 => ?_)
    · have hf := g_ift hf c3
      refine lv_iconst (v := 0) hx hb dX9_isDigit_55 (by decide) ?_
      obtain rfl := g_some hf
      exact g_rz (v := (0 : Int32)) X E hP hS rfl dX9_isDigit_56
    · have hf := g_iff hf c3
      refine lv_aload_n hx hb dX9_isDigit_31 rfl (lv_at hl 0 rfl) ?_
      refine ggM_19 X E hP inX9_isDigit_X9 lkX9_isDigit_2 dX9_isDigit_32 ?_
      refine lv_aload_n hx hb dX9_isDigit_35 rfl (lv_at hl 0 rfl) ?_
      refine ggM_24 X E hP inX9_isDigit_X9 lkX9_isDigit_3 dX9_isDigit_36 ?_
      refine lv_aload_n hx hb dX9_isDigit_39 rfl (lv_at hl 0 rfl) ?_
      refine ggM_25 X E hP inX9_isDigit_X9 lkX9_isDigit_0 dX9_isDigit_40 ?_
      refine lv_iadd hx hb dX9_isDigit_43 ?_
      obtain ⟨b4, hf⟩ := g_if hf
      refine giM_19 X E hP b4 dX9_isDigit_44 ?_
      refine lv_l2i hx hb dX9_isDigit_45 rfl ?_
      refine lv_bipush (v := 57) hx hb dX9_isDigit_46 (by decide) ?_
      refine lv_icmp_gt (tgt := 55) hx hb dX9_isDigit_48 (by decide) (fun c5 => ?_) (fun c5 => ?_)
      · have hf := g_ift hf c5
        refine lv_iconst (v := 0) hx hb dX9_isDigit_55 (by decide) ?_
        obtain rfl := g_some hf
        exact g_rz (v := (0 : Int32)) X E hP hS rfl dX9_isDigit_56
      · have hf := g_iff hf c5
        refine lv_iconst (v := 1) hx hb dX9_isDigit_51 (by decide) ?_
        refine lv_goto (tgt := 56) hx hb dX9_isDigit_52 (by decide) ?_
        obtain rfl := g_some hf
        exact g_rz (v := (1 : Int32)) X E hP hS rfl dX9_isDigit_56
theorem lkX9_wrong_0 : Cond.fieldLink RX9 144 RX9 "wrongAt" "I" ∈ wsX9_wrong := by decide +kernel
theorem inX9_wrong_X9 : ∀ w ∈ wsX90, w ∈ wsX9_wrong := by decide +kernel
def fX9_wrong (S : GS) (a1 : Int32) : Option (Int32 × GS) :=
  some ((0 : Int32), (gU1 S 28 a1))
set_option maxHeartbeats 4000000 in
set_option maxRecDepth 100000 in
theorem tcX9_wrong (l : Launch) (G : GP) (S : GS) (a1 : Int32) {R : (Int32 × GS)} (hf : fX9_wrong S a1 = some R) : CI l yX9_wrong wsX9_wrong 0 0 [.ref (ga G 63), .int a1] WM G S R.1 R.2 := by
  refine g_met RX9 (cc := cX9_wrong) (nL := 2) (ret := (some .boolean)) (by decide) rfl rfl (Nat.le_of_ble_eq_true rfl) ?_
  intro p e s m below meth c ls X E hP hS hl
  have hl : lv_has ls 2 [(0, .ref (ga G 63)), (1, .int a1)] := hl
  obtain ⟨hx, hb, -, -, hown, hts, -⟩ := id X
  rw [fX9_wrong] at hf
  refine lv_aload_n hx hb dX9_wrong_0 rfl (lv_at hl 0 rfl) ?_
  refine lv_iload_n hx hb dX9_wrong_1 rfl (lv_at hl 1 rfl) ?_
  refine gpM_28 X E hP hS inX9_wrong_X9 lkX9_wrong_0 dX9_wrong_2 (fun H locs hP hS => ?_)
  refine lv_iconst (v := 0) hx hb dX9_wrong_5 (by decide) ?_
  obtain rfl := g_some hf
  exact g_rz (v := (0 : Int32)) X E hP hS rfl dX9_wrong_6
theorem lkX9_reads_0 : Cond.fieldLink RX9 156 RX9 "number" "I" ∈ wsX9_reads := by decide +kernel
theorem lkX9_reads_1 : Cond.fieldLink RX9 62 RX9 "cells" "[J" ∈ wsX9_reads := by decide +kernel
theorem lkX9_reads_2 : Cond.fieldLink RX9 153 RX9 "base" "I" ∈ wsX9_reads := by decide +kernel
theorem lkX9_reads_3 : Cond.fieldLink RX9 147 RX9 "at" "I" ∈ wsX9_reads := by decide +kernel
theorem inX9_reads_X9 : ∀ w ∈ wsX90, w ∈ wsX9_reads := by decide +kernel
def fX9_reads_23 : Nat → GS → Int32 → Option GS
  | 0, _, _ => none
  | fu + 1, S, v1 =>
    if (4 : Int32) ≤ v1 then
      some S
    else
      (fX9_isDigit S).bind fun u5 =>
      if u5 = 0 then
        some S
      else
        if ((S.1 24) + (S.1 25)) < 0 ∨ 1280 ≤ ((S.1 24) + (S.1 25)).toNatClampNeg then none else
        gLet (gU1 S 27 ((((10 : Int32) * (S.1 27)) + ((S.2.2.2 19 ((S.1 24) + (S.1 25)).toNatClampNeg)).toInt32) - (48 : Int32))) fun T9 =>
        fX9_reads_23 fu (gU1 T9 25 ((T9.1 25) + (1 : Int32))) (v1 + 1)
set_option maxHeartbeats 4000000 in
set_option maxRecDepth 100000 in
theorem bX9_reads_23 {p : Program} {l : Launch} {e : Env} {s : State} {m : MethodId} {args : Array Value} {below : List Frame} {meth : Method} {c : Code} {Q : State → Prop} {G : GP} (X : GX p s m meth c args cX9_reads 2 (some .boolean) wsX9_reads RX9) (E : gE WM G s)  : ∀ (fu : Nat) (S : GS) (v1 : Int32) (R : GS) (H : Heap) (locs : List Loc) (ls : Array Slot) (_ : fX9_reads_23 fu S v1 = some R) (_ : va_P (gD G) vwCl (WM G S ++ gF G) H) (_ : va_S (gA G) s.heap H locs) (_ : lv_has ls 2 [(0, .ref (ga G 63)), (1, .int v1)]) (_ : ∀ (H : Heap) (locs : List Loc) (ls : Array Slot), va_P (gD G) vwCl (WM G R ++ gF G) H → va_S (gA G) s.heap H locs → lv_has ls 2 [] → W p l e (gR 1 21) s m args below meth c H locs 0 0 Q (F0 m 81 ls [])), W p l e (gR 1 21) s m args below meth c H locs 0 0 Q (F0 m 23 ls []) := by
  obtain ⟨hx, hb, -, -, hown, hts, -⟩ := id X
  intro fu
  induction fu with
  | zero =>
    intro S v1 R H locs ls hf
    cases (show (none : Option GS) = some R from hf)
  | succ fu ih =>
    intro S v1 R H locs ls hf hP hS hl kk
    rw [fX9_reads_23] at hf
    refine lv_iload_n hx hb dX9_reads_23 rfl (lv_at hl 1 rfl) ?_
    refine lv_iconst (v := 4) hx hb dX9_reads_24 (by decide) ?_
    refine lv_icmp_ge (tgt := 81) hx hb dX9_reads_25 (by decide) (fun c4 => ?_) (fun c4 => ?_)
    · have hf := g_ift hf c4
      obtain rfl := g_some hf
      exact kk _ _ _ hP hS (lv_sub hl [] rfl)
    · have hf := g_iff hf c4
      refine lv_aload_n hx hb dX9_reads_28 rfl (lv_at hl 0 rfl) ?_
      obtain ⟨u5, h6, hf⟩ := g_bind hf
      refine g_vi (rest := []) X E hP hS (tcX9_isDigit l G _  h6) (g_cwV X gX9_reads_X9_isDigit rfl hdX9_isDigit ⟨Nat.le_of_ble_eq_true rfl, Nat.le_of_ble_eq_true rfl⟩) (rcM_model E hP) rfl hl.1 rfl (Nat.le_of_ble_eq_true rfl) dX9_reads_29 ⟨Nat.le_refl _, Nat.le_refl _⟩ (fun H locs hP hS => ?_)
      refine lv_if_eq (tgt := 81) hx hb dX9_reads_32 (by decide) (fun c7 => ?_) (fun c7 => ?_)
      · have hf := g_ift hf c7
        obtain rfl := g_some hf
        exact kk _ _ _ hP hS (lv_sub hl [] rfl)
      · have hf := g_iff hf c7
        refine lv_aload_n hx hb dX9_reads_35 rfl (lv_at hl 0 rfl) ?_
        refine lv_bipush (v := 10) hx hb dX9_reads_36 (by decide) ?_
        refine lv_aload_n hx hb dX9_reads_38 rfl (lv_at hl 0 rfl) ?_
        refine ggM_27 X E hP inX9_reads_X9 lkX9_reads_0 dX9_reads_39 ?_
        refine lv_imul hx hb dX9_reads_42 ?_
        refine lv_aload_n hx hb dX9_reads_43 rfl (lv_at hl 0 rfl) ?_
        refine ggM_19 X E hP inX9_reads_X9 lkX9_reads_1 dX9_reads_44 ?_
        refine lv_aload_n hx hb dX9_reads_47 rfl (lv_at hl 0 rfl) ?_
        refine ggM_24 X E hP inX9_reads_X9 lkX9_reads_2 dX9_reads_48 ?_
        refine lv_aload_n hx hb dX9_reads_51 rfl (lv_at hl 0 rfl) ?_
        refine ggM_25 X E hP inX9_reads_X9 lkX9_reads_3 dX9_reads_52 ?_
        refine lv_iadd hx hb dX9_reads_55 ?_
        obtain ⟨b8, hf⟩ := g_if hf
        refine giM_19 X E hP b8 dX9_reads_56 ?_
        refine lv_l2i hx hb dX9_reads_57 rfl ?_
        refine lv_iadd hx hb dX9_reads_58 ?_
        refine lv_bipush (v := 48) hx hb dX9_reads_59 (by decide) ?_
        refine lv_isub hx hb dX9_reads_61 ?_
        refine gpM_27 X E hP hS inX9_reads_X9 lkX9_reads_0 dX9_reads_62 (fun H locs hP hS => ?_)
        obtain ⟨T9, e10, hf⟩ := g_let hf
        rw [← e10] at hP
        refine lv_aload_n hx hb dX9_reads_65 rfl (lv_at hl 0 rfl) ?_
        refine lv_dup hx hb dX9_reads_66 rfl ?_
        refine ggM_25 X E hP inX9_reads_X9 lkX9_reads_3 dX9_reads_67 ?_
        refine lv_iconst (v := 1) hx hb dX9_reads_70 (by decide) ?_
        refine lv_iadd hx hb dX9_reads_71 ?_
        refine gpM_25 X E hP hS inX9_reads_X9 lkX9_reads_3 dX9_reads_72 (fun H locs hP hS => ?_)
        refine lv_iinc (v := (v1 + 1)) (lv' := [(1, .int (v1 + 1)), (0, .ref (ga G 63))]) hx hb dX9_reads_75 hl (k := 1) rfl rfl (by decide) rfl (fun ls hl => ?_)
        refine lv_goto (tgt := 23) hx hb dX9_reads_78 (by decide) ?_
        exact ih _ _ _ _ _ _ hf hP hS (lv_sub hl [1, 0] rfl) kk
def fX9_reads (S : GS)  : Option (Int32 × GS) :=
  (fX9_isDigit (gU1 S 27 (0 : Int32))).bind fun u1 =>
  if u1 = 0 then
    (fX9_wrong (gU1 S 27 (0 : Int32)) ((gU1 S 27 (0 : Int32)).1 25)).bind fun u13 =>
    if ¬ (u13.1 = 0 ∨ u13.1 = 1) then none else
    some (u13.1, u13.2)
  else
    (fX9_reads_23 gFuel (gU1 S 27 (0 : Int32)) (0 : Int32)).bind fun u11 =>
    some ((1 : Int32), u11)
set_option maxHeartbeats 4000000 in
set_option maxRecDepth 100000 in
theorem tcX9_reads (l : Launch) (G : GP) (S : GS)  {R : (Int32 × GS)} (hf : fX9_reads S  = some R) : CI l yX9_reads wsX9_reads 1 21 [.ref (ga G 63)] WM G S R.1 R.2 := by
  refine g_met RX9 (cc := cX9_reads) (nL := 2) (ret := (some .boolean)) (by decide) rfl rfl (Nat.le_of_ble_eq_true rfl) ?_
  intro p e s m below meth c ls X E hP hS hl
  have hl : lv_has ls 2 [(0, .ref (ga G 63))] := hl
  obtain ⟨hx, hb, -, -, hown, hts, -⟩ := id X
  rw [fX9_reads] at hf
  refine lv_aload_n hx hb dX9_reads_0 rfl (lv_at hl 0 rfl) ?_
  refine lv_iconst (v := 0) hx hb dX9_reads_1 (by decide) ?_
  refine gpM_27 X E hP hS inX9_reads_X9 lkX9_reads_0 dX9_reads_2 (fun H locs hP hS => ?_)
  refine lv_aload_n hx hb dX9_reads_5 rfl (lv_at hl 0 rfl) ?_
  obtain ⟨u1, h2, hf⟩ := g_bind hf
  refine g_vi (rest := []) X E hP hS (tcX9_isDigit l G _  h2) (g_cwV X gX9_reads_X9_isDigit rfl hdX9_isDigit ⟨Nat.le_of_ble_eq_true rfl, Nat.le_of_ble_eq_true rfl⟩) (rcM_model E hP) rfl hl.1 rfl (Nat.le_of_ble_eq_true rfl) dX9_reads_6 ⟨Nat.le_refl _, Nat.le_refl _⟩ (fun H locs hP hS => ?_)
  refine lv_if_ne (tgt := 21) hx hb dX9_reads_9 (by decide) (fun c3 => ?_) (fun c3 => ?_)
  · have hf := g_iff hf c3
    refine lv_iconst (v := 0) hx hb dX9_reads_21 (by decide) ?_
    refine lv_istore_n (lv' := [(1, .int (0 : Int32)), (0, .ref (ga G 63))]) hx hb dX9_reads_22 rfl hl (by decide) rfl (fun ls hl => ?_)
    obtain ⟨u11, h12, hf⟩ := g_bind hf
    refine bX9_reads_23 X E gFuel _ _ u11 _ _ _ h12 hP hS (lv_sub hl [1, 0] rfl) (fun H locs ls hP hS hl => ?_)
    have hl : lv_has ls 2 [] := hl
    have hP : va_P (gD G) vwCl (WM G u11 ++ gF G) H := hP
    refine lv_iconst (v := 1) hx hb dX9_reads_81 (by decide) ?_
    obtain rfl := g_some hf
    exact g_rz (v := (1 : Int32)) X E hP hS rfl dX9_reads_82
  · have hf := g_ift hf c3
    refine lv_aload_n hx hb dX9_reads_12 rfl (lv_at hl 0 rfl) ?_
    refine lv_aload_n hx hb dX9_reads_13 rfl (lv_at hl 0 rfl) ?_
    refine ggM_25 X E hP inX9_reads_X9 lkX9_reads_3 dX9_reads_14 ?_
    obtain ⟨u13, h14, hf⟩ := g_bind hf
    refine g_vi (rest := []) X E hP hS (tcX9_wrong l G _ _ h14) (g_cwV X gX9_reads_X9_wrong rfl hdX9_wrong ⟨Nat.le_of_ble_eq_true rfl, Nat.le_of_ble_eq_true rfl⟩) (rcM_model E hP) rfl hl.1 rfl (Nat.le_of_ble_eq_true rfl) dX9_reads_17 ⟨Nat.le_refl _, Nat.le_refl _⟩ (fun H locs hP hS => ?_)
    obtain ⟨z15, hf⟩ := g_if hf
    obtain rfl := g_some hf
    exact g_rz (v := u13.1) X E hP hS (g_bool z15) dX9_reads_20
theorem lkX9_isSo_0 : Cond.fieldLink RX9 156 RX9 "number" "I" ∈ wsX9_isSo := by decide +kernel
theorem lkX9_isSo_1 : Cond.fieldLink RX9 91 RX9 "many" "I" ∈ wsX9_isSo := by decide +kernel
theorem inX9_isSo_X9 : ∀ w ∈ wsX90, w ∈ wsX9_isSo := by decide +kernel
def fX9_isSo (S : GS) (a1 : Int32) (a2 : Int32) : Option Int32 :=
  if a1 = (0 : Int32) then
    if a2 = 0 then
      if (6 : Int32) < (S.1 27) then
        some (0 : Int32)
      else
        some (1 : Int32)
    else
      if a2 = (1 : Int32) then
        if (9 : Int32) < (S.1 27) then
          some (0 : Int32)
        else
          some (1 : Int32)
      else
        if a2 < (4 : Int32) then
          some (1 : Int32)
        else
          (fX9_isYards S (S.1 27)).bind fun u5 =>
          if u5 = 0 then
            some (0 : Int32)
          else
            some (1 : Int32)
  else if a1 = (1 : Int32) then
    if a2 = 0 then
      if (S.1 0) ≤ (S.1 27) then
        some (0 : Int32)
      else
        some (1 : Int32)
    else
      (fX9_isTold S (a1 + (1 : Int32)) (S.1 27)).bind fun u12 =>
      if ¬ (u12 = 0 ∨ u12 = 1) then none else
      some u12
  else if a1 = (2 : Int32) then
    if a2 = 0 then
      if (S.1 0) ≤ (S.1 27) then
        some (0 : Int32)
      else
        some (1 : Int32)
    else
      (fX9_isTold S (a1 + (1 : Int32)) (S.1 27)).bind fun u18 =>
      if ¬ (u18 = 0 ∨ u18 = 1) then none else
      some u18
  else if a1 = (3 : Int32) then
    (fX9_isAsked S (a1 - (3 : Int32)) (S.1 27)).bind fun u23 =>
    if ¬ (u23 = 0 ∨ u23 = 1) then none else
    some u23
  else if a1 = (4 : Int32) then
    (fX9_isAsked S (a1 - (3 : Int32)) (S.1 27)).bind fun u27 =>
    if ¬ (u27 = 0 ∨ u27 = 1) then none else
    some u27
  else if a1 = (5 : Int32) then
    (fX9_isAsked S (a1 - (3 : Int32)) (S.1 27)).bind fun u31 =>
    if ¬ (u31 = 0 ∨ u31 = 1) then none else
    some u31
  else if a1 = (6 : Int32) then
    if 0 < a2 then
      some (1 : Int32)
    else
      if (S.1 0) ≤ (S.1 27) then
        some (0 : Int32)
      else
        some (1 : Int32)
  else (fX9_isAsked S (a1 - (3 : Int32)) (S.1 27)).bind fun u37 =>
  if ¬ (u37 = 0 ∨ u37 = 1) then none else
  some u37
set_option maxHeartbeats 4000000 in
set_option maxRecDepth 100000 in
theorem tcX9_isSo (l : Launch) (G : GP) (S : GS) (a1 : Int32) (a2 : Int32) {R : Int32} (hf : fX9_isSo S a1 a2 = some R) : CI l yX9_isSo wsX9_isSo 2 43 [.ref (ga G 63), .int a1, .int a2] WM G S R S := by
  refine g_met RX9 (cc := cX9_isSo) (nL := 3) (ret := (some .boolean)) (by decide) rfl rfl (Nat.le_of_ble_eq_true rfl) ?_
  intro p e s m below meth c ls X E hP hS hl
  have hl : lv_has ls 3 [(0, .ref (ga G 63)), (1, .int a1), (2, .int a2)] := hl
  obtain ⟨hx, hb, -, -, hown, hts, -⟩ := id X
  rw [fX9_isSo] at hf
  refine lv_iload_n hx hb dX9_isSo_0 rfl (lv_at hl 1 rfl) ?_
  by_cases c1 : a1 = (0 : Int32)
  · have hf := g_ift hf c1
    refine g_tin (k := (0 : Int32)) (off := 43) (tgt := 44) hx hb dX9_isSo_1 c1 (by decide) ?_
    refine lv_iload_n hx hb dX9_isSo_44 rfl (lv_at hl 2 rfl) ?_
    refine lv_if_ne (tgt := 65) hx hb dX9_isSo_45 (by decide) (fun c2 => ?_) (fun c2 => ?_)
    · have hf := g_iff hf c2
      refine lv_iload_n hx hb dX9_isSo_65 rfl (lv_at hl 2 rfl) ?_
      refine lv_iconst (v := 1) hx hb dX9_isSo_66 (by decide) ?_
      refine lv_icmp_ne (tgt := 87) hx hb dX9_isSo_67 (by decide) (fun c3 => ?_) (fun c3 => ?_)
      · have hf := g_iff hf c3
        refine lv_iload_n hx hb dX9_isSo_87 rfl (lv_at hl 2 rfl) ?_
        refine lv_iconst (v := 4) hx hb dX9_isSo_88 (by decide) ?_
        refine lv_icmp_lt (tgt := 103) hx hb dX9_isSo_89 (by decide) (fun c4 => ?_) (fun c4 => ?_)
        · have hf := g_ift hf c4
          refine lv_iconst (v := 1) hx hb dX9_isSo_103 (by decide) ?_
          refine lv_goto (tgt := 108) hx hb dX9_isSo_104 (by decide) ?_
          obtain rfl := g_some hf
          exact g_rz (v := (1 : Int32)) X E hP hS rfl dX9_isSo_108
        · have hf := g_iff hf c4
          refine lv_aload_n hx hb dX9_isSo_92 rfl (lv_at hl 0 rfl) ?_
          refine lv_aload_n hx hb dX9_isSo_93 rfl (lv_at hl 0 rfl) ?_
          refine ggM_27 X E hP inX9_isSo_X9 lkX9_isSo_0 dX9_isSo_94 ?_
          obtain ⟨u5, h6, hf⟩ := g_bind hf
          refine g_vi (rest := []) X E hP hS (tcX9_isYards l G _ _ h6) (g_cwV X gX9_isSo_X9_isYards rfl hdX9_isYards ⟨Nat.le_of_ble_eq_true rfl, Nat.le_of_ble_eq_true rfl⟩) (rcM_model E hP) rfl hl.1 rfl (Nat.le_of_ble_eq_true rfl) dX9_isSo_97 ⟨Nat.le_refl _, Nat.le_refl _⟩ (fun H locs hP hS => ?_)
          refine lv_if_eq (tgt := 107) hx hb dX9_isSo_100 (by decide) (fun c7 => ?_) (fun c7 => ?_)
          · have hf := g_ift hf c7
            refine lv_iconst (v := 0) hx hb dX9_isSo_107 (by decide) ?_
            obtain rfl := g_some hf
            exact g_rz (v := (0 : Int32)) X E hP hS rfl dX9_isSo_108
          · have hf := g_iff hf c7
            refine lv_iconst (v := 1) hx hb dX9_isSo_103 (by decide) ?_
            refine lv_goto (tgt := 108) hx hb dX9_isSo_104 (by decide) ?_
            obtain rfl := g_some hf
            exact g_rz (v := (1 : Int32)) X E hP hS rfl dX9_isSo_108
      · have hf := g_ift hf c3
        refine lv_aload_n hx hb dX9_isSo_70 rfl (lv_at hl 0 rfl) ?_
        refine ggM_27 X E hP inX9_isSo_X9 lkX9_isSo_0 dX9_isSo_71 ?_
        refine lv_bipush (v := 9) hx hb dX9_isSo_74 (by decide) ?_
        refine lv_icmp_gt (tgt := 83) hx hb dX9_isSo_76 (by decide) (fun c8 => ?_) (fun c8 => ?_)
        · have hf := g_ift hf c8
          refine lv_iconst (v := 0) hx hb dX9_isSo_83 (by decide) ?_
          refine lv_goto (tgt := 108) hx hb dX9_isSo_84 (by decide) ?_
          obtain rfl := g_some hf
          exact g_rz (v := (0 : Int32)) X E hP hS rfl dX9_isSo_108
        · have hf := g_iff hf c8
          refine lv_iconst (v := 1) hx hb dX9_isSo_79 (by decide) ?_
          refine lv_goto (tgt := 108) hx hb dX9_isSo_80 (by decide) ?_
          obtain rfl := g_some hf
          exact g_rz (v := (1 : Int32)) X E hP hS rfl dX9_isSo_108
    · have hf := g_ift hf c2
      refine lv_aload_n hx hb dX9_isSo_48 rfl (lv_at hl 0 rfl) ?_
      refine ggM_27 X E hP inX9_isSo_X9 lkX9_isSo_0 dX9_isSo_49 ?_
      refine lv_bipush (v := 6) hx hb dX9_isSo_52 (by decide) ?_
      refine lv_icmp_gt (tgt := 61) hx hb dX9_isSo_54 (by decide) (fun c9 => ?_) (fun c9 => ?_)
      · have hf := g_ift hf c9
        refine lv_iconst (v := 0) hx hb dX9_isSo_61 (by decide) ?_
        refine lv_goto (tgt := 108) hx hb dX9_isSo_62 (by decide) ?_
        obtain rfl := g_some hf
        exact g_rz (v := (0 : Int32)) X E hP hS rfl dX9_isSo_108
      · have hf := g_iff hf c9
        refine lv_iconst (v := 1) hx hb dX9_isSo_57 (by decide) ?_
        refine lv_goto (tgt := 108) hx hb dX9_isSo_58 (by decide) ?_
        obtain rfl := g_some hf
        exact g_rz (v := (1 : Int32)) X E hP hS rfl dX9_isSo_108
  have hf := g_iff hf c1
  by_cases c10 : a1 = (1 : Int32)
  · have hf := g_ift hf c10
    refine g_tin (k := (1 : Int32)) (off := 108) (tgt := 109) hx hb dX9_isSo_1 c10 (by decide) ?_
    refine lv_iload_n hx hb dX9_isSo_109 rfl (lv_at hl 2 rfl) ?_
    refine lv_if_ne (tgt := 132) hx hb dX9_isSo_110 (by decide) (fun c11 => ?_) (fun c11 => ?_)
    · have hf := g_iff hf c11
      refine lv_aload_n hx hb dX9_isSo_132 rfl (lv_at hl 0 rfl) ?_
      refine lv_iload_n hx hb dX9_isSo_133 rfl (lv_at hl 1 rfl) ?_
      refine lv_iconst (v := 1) hx hb dX9_isSo_134 (by decide) ?_
      refine lv_iadd hx hb dX9_isSo_135 ?_
      refine lv_aload_n hx hb dX9_isSo_136 rfl (lv_at hl 0 rfl) ?_
      refine ggM_27 X E hP inX9_isSo_X9 lkX9_isSo_0 dX9_isSo_137 ?_
      obtain ⟨u12, h13, hf⟩ := g_bind hf
      refine g_vi (rest := []) X E hP hS (tcX9_isTold l G _ _ _ h13) (g_cwV X gX9_isSo_X9_isTold rfl hdX9_isTold ⟨Nat.le_of_ble_eq_true rfl, Nat.le_of_ble_eq_true rfl⟩) (rcM_model E hP) rfl hl.1 rfl (Nat.le_of_ble_eq_true rfl) dX9_isSo_140 ⟨Nat.le_refl _, Nat.le_refl _⟩ (fun H locs hP hS => ?_)
      obtain ⟨z14, hf⟩ := g_if hf
      obtain rfl := g_some hf
      exact g_rz (v := u12) X E hP hS (g_bool z14) dX9_isSo_143
    · have hf := g_ift hf c11
      refine lv_aload_n hx hb dX9_isSo_113 rfl (lv_at hl 0 rfl) ?_
      refine ggM_27 X E hP inX9_isSo_X9 lkX9_isSo_0 dX9_isSo_114 ?_
      refine lv_aload_n hx hb dX9_isSo_117 rfl (lv_at hl 0 rfl) ?_
      refine ggM_0 X E hP inX9_isSo_X9 lkX9_isSo_1 dX9_isSo_118 ?_
      refine lv_icmp_ge (tgt := 128) hx hb dX9_isSo_121 (by decide) (fun c15 => ?_) (fun c15 => ?_)
      · have hf := g_ift hf c15
        refine lv_iconst (v := 0) hx hb dX9_isSo_128 (by decide) ?_
        refine lv_goto (tgt := 143) hx hb dX9_isSo_129 (by decide) ?_
        obtain rfl := g_some hf
        exact g_rz (v := (0 : Int32)) X E hP hS rfl dX9_isSo_143
      · have hf := g_iff hf c15
        refine lv_iconst (v := 1) hx hb dX9_isSo_124 (by decide) ?_
        refine lv_goto (tgt := 143) hx hb dX9_isSo_125 (by decide) ?_
        obtain rfl := g_some hf
        exact g_rz (v := (1 : Int32)) X E hP hS rfl dX9_isSo_143
  have hf := g_iff hf c10
  by_cases c16 : a1 = (2 : Int32)
  · have hf := g_ift hf c16
    refine g_tin (k := (2 : Int32)) (off := 108) (tgt := 109) hx hb dX9_isSo_1 c16 (by decide) ?_
    refine lv_iload_n hx hb dX9_isSo_109 rfl (lv_at hl 2 rfl) ?_
    refine lv_if_ne (tgt := 132) hx hb dX9_isSo_110 (by decide) (fun c17 => ?_) (fun c17 => ?_)
    · have hf := g_iff hf c17
      refine lv_aload_n hx hb dX9_isSo_132 rfl (lv_at hl 0 rfl) ?_
      refine lv_iload_n hx hb dX9_isSo_133 rfl (lv_at hl 1 rfl) ?_
      refine lv_iconst (v := 1) hx hb dX9_isSo_134 (by decide) ?_
      refine lv_iadd hx hb dX9_isSo_135 ?_
      refine lv_aload_n hx hb dX9_isSo_136 rfl (lv_at hl 0 rfl) ?_
      refine ggM_27 X E hP inX9_isSo_X9 lkX9_isSo_0 dX9_isSo_137 ?_
      obtain ⟨u18, h19, hf⟩ := g_bind hf
      refine g_vi (rest := []) X E hP hS (tcX9_isTold l G _ _ _ h19) (g_cwV X gX9_isSo_X9_isTold rfl hdX9_isTold ⟨Nat.le_of_ble_eq_true rfl, Nat.le_of_ble_eq_true rfl⟩) (rcM_model E hP) rfl hl.1 rfl (Nat.le_of_ble_eq_true rfl) dX9_isSo_140 ⟨Nat.le_refl _, Nat.le_refl _⟩ (fun H locs hP hS => ?_)
      obtain ⟨z20, hf⟩ := g_if hf
      obtain rfl := g_some hf
      exact g_rz (v := u18) X E hP hS (g_bool z20) dX9_isSo_143
    · have hf := g_ift hf c17
      refine lv_aload_n hx hb dX9_isSo_113 rfl (lv_at hl 0 rfl) ?_
      refine ggM_27 X E hP inX9_isSo_X9 lkX9_isSo_0 dX9_isSo_114 ?_
      refine lv_aload_n hx hb dX9_isSo_117 rfl (lv_at hl 0 rfl) ?_
      refine ggM_0 X E hP inX9_isSo_X9 lkX9_isSo_1 dX9_isSo_118 ?_
      refine lv_icmp_ge (tgt := 128) hx hb dX9_isSo_121 (by decide) (fun c21 => ?_) (fun c21 => ?_)
      · have hf := g_ift hf c21
        refine lv_iconst (v := 0) hx hb dX9_isSo_128 (by decide) ?_
        refine lv_goto (tgt := 143) hx hb dX9_isSo_129 (by decide) ?_
        obtain rfl := g_some hf
        exact g_rz (v := (0 : Int32)) X E hP hS rfl dX9_isSo_143
      · have hf := g_iff hf c21
        refine lv_iconst (v := 1) hx hb dX9_isSo_124 (by decide) ?_
        refine lv_goto (tgt := 143) hx hb dX9_isSo_125 (by decide) ?_
        obtain rfl := g_some hf
        exact g_rz (v := (1 : Int32)) X E hP hS rfl dX9_isSo_143
  have hf := g_iff hf c16
  by_cases c22 : a1 = (3 : Int32)
  · have hf := g_ift hf c22
    refine g_tin (k := (3 : Int32)) (off := 164) (tgt := 165) hx hb dX9_isSo_1 c22 (by decide) ?_
    refine lv_aload_n hx hb dX9_isSo_165 rfl (lv_at hl 0 rfl) ?_
    refine lv_iload_n hx hb dX9_isSo_166 rfl (lv_at hl 1 rfl) ?_
    refine lv_iconst (v := 3) hx hb dX9_isSo_167 (by decide) ?_
    refine lv_isub hx hb dX9_isSo_168 ?_
    refine lv_aload_n hx hb dX9_isSo_169 rfl (lv_at hl 0 rfl) ?_
    refine ggM_27 X E hP inX9_isSo_X9 lkX9_isSo_0 dX9_isSo_170 ?_
    obtain ⟨u23, h24, hf⟩ := g_bind hf
    refine g_vi (rest := []) X E hP hS (tcX9_isAsked l G _ _ _ h24) (g_cwV X gX9_isSo_X9_isAsked rfl hdX9_isAsked ⟨Nat.le_of_ble_eq_true rfl, Nat.le_of_ble_eq_true rfl⟩) (rcM_model E hP) rfl hl.1 rfl (Nat.le_of_ble_eq_true rfl) dX9_isSo_173 ⟨Nat.le_refl _, Nat.le_refl _⟩ (fun H locs hP hS => ?_)
    obtain ⟨z25, hf⟩ := g_if hf
    obtain rfl := g_some hf
    exact g_rz (v := u23) X E hP hS (g_bool z25) dX9_isSo_176
  have hf := g_iff hf c22
  by_cases c26 : a1 = (4 : Int32)
  · have hf := g_ift hf c26
    refine g_tin (k := (4 : Int32)) (off := 164) (tgt := 165) hx hb dX9_isSo_1 c26 (by decide) ?_
    refine lv_aload_n hx hb dX9_isSo_165 rfl (lv_at hl 0 rfl) ?_
    refine lv_iload_n hx hb dX9_isSo_166 rfl (lv_at hl 1 rfl) ?_
    refine lv_iconst (v := 3) hx hb dX9_isSo_167 (by decide) ?_
    refine lv_isub hx hb dX9_isSo_168 ?_
    refine lv_aload_n hx hb dX9_isSo_169 rfl (lv_at hl 0 rfl) ?_
    refine ggM_27 X E hP inX9_isSo_X9 lkX9_isSo_0 dX9_isSo_170 ?_
    obtain ⟨u27, h28, hf⟩ := g_bind hf
    refine g_vi (rest := []) X E hP hS (tcX9_isAsked l G _ _ _ h28) (g_cwV X gX9_isSo_X9_isAsked rfl hdX9_isAsked ⟨Nat.le_of_ble_eq_true rfl, Nat.le_of_ble_eq_true rfl⟩) (rcM_model E hP) rfl hl.1 rfl (Nat.le_of_ble_eq_true rfl) dX9_isSo_173 ⟨Nat.le_refl _, Nat.le_refl _⟩ (fun H locs hP hS => ?_)
    obtain ⟨z29, hf⟩ := g_if hf
    obtain rfl := g_some hf
    exact g_rz (v := u27) X E hP hS (g_bool z29) dX9_isSo_176
  have hf := g_iff hf c26
  by_cases c30 : a1 = (5 : Int32)
  · have hf := g_ift hf c30
    refine g_tin (k := (5 : Int32)) (off := 164) (tgt := 165) hx hb dX9_isSo_1 c30 (by decide) ?_
    refine lv_aload_n hx hb dX9_isSo_165 rfl (lv_at hl 0 rfl) ?_
    refine lv_iload_n hx hb dX9_isSo_166 rfl (lv_at hl 1 rfl) ?_
    refine lv_iconst (v := 3) hx hb dX9_isSo_167 (by decide) ?_
    refine lv_isub hx hb dX9_isSo_168 ?_
    refine lv_aload_n hx hb dX9_isSo_169 rfl (lv_at hl 0 rfl) ?_
    refine ggM_27 X E hP inX9_isSo_X9 lkX9_isSo_0 dX9_isSo_170 ?_
    obtain ⟨u31, h32, hf⟩ := g_bind hf
    refine g_vi (rest := []) X E hP hS (tcX9_isAsked l G _ _ _ h32) (g_cwV X gX9_isSo_X9_isAsked rfl hdX9_isAsked ⟨Nat.le_of_ble_eq_true rfl, Nat.le_of_ble_eq_true rfl⟩) (rcM_model E hP) rfl hl.1 rfl (Nat.le_of_ble_eq_true rfl) dX9_isSo_173 ⟨Nat.le_refl _, Nat.le_refl _⟩ (fun H locs hP hS => ?_)
    obtain ⟨z33, hf⟩ := g_if hf
    obtain rfl := g_some hf
    exact g_rz (v := u31) X E hP hS (g_bool z33) dX9_isSo_176
  have hf := g_iff hf c30
  by_cases c34 : a1 = (6 : Int32)
  · have hf := g_ift hf c34
    refine g_tin (k := (6 : Int32)) (off := 143) (tgt := 144) hx hb dX9_isSo_1 c34 (by decide) ?_
    refine lv_iload_n hx hb dX9_isSo_144 rfl (lv_at hl 2 rfl) ?_
    refine lv_if_gt (tgt := 159) hx hb dX9_isSo_145 (by decide) (fun c35 => ?_) (fun c35 => ?_)
    · have hf := g_ift hf c35
      refine lv_iconst (v := 1) hx hb dX9_isSo_159 (by decide) ?_
      refine lv_goto (tgt := 164) hx hb dX9_isSo_160 (by decide) ?_
      obtain rfl := g_some hf
      exact g_rz (v := (1 : Int32)) X E hP hS rfl dX9_isSo_164
    · have hf := g_iff hf c35
      refine lv_aload_n hx hb dX9_isSo_148 rfl (lv_at hl 0 rfl) ?_
      refine ggM_27 X E hP inX9_isSo_X9 lkX9_isSo_0 dX9_isSo_149 ?_
      refine lv_aload_n hx hb dX9_isSo_152 rfl (lv_at hl 0 rfl) ?_
      refine ggM_0 X E hP inX9_isSo_X9 lkX9_isSo_1 dX9_isSo_153 ?_
      refine lv_icmp_ge (tgt := 163) hx hb dX9_isSo_156 (by decide) (fun c36 => ?_) (fun c36 => ?_)
      · have hf := g_ift hf c36
        refine lv_iconst (v := 0) hx hb dX9_isSo_163 (by decide) ?_
        obtain rfl := g_some hf
        exact g_rz (v := (0 : Int32)) X E hP hS rfl dX9_isSo_164
      · have hf := g_iff hf c36
        refine lv_iconst (v := 1) hx hb dX9_isSo_159 (by decide) ?_
        refine lv_goto (tgt := 164) hx hb dX9_isSo_160 (by decide) ?_
        obtain rfl := g_some hf
        exact g_rz (v := (1 : Int32)) X E hP hS rfl dX9_isSo_164
  have hf := g_iff hf c34
  refine lv_tableOut (tgt := 165) hx hb dX9_isSo_1 (by have e0 := lv_neT (a := 0) c1 (by decide); have e1 := lv_neT (a := 1) c10 (by decide); have e2 := lv_neT (a := 2) c16 (by decide); have e3 := lv_neT (a := 3) c22 (by decide); have e4 := lv_neT (a := 4) c26 (by decide); have e5 := lv_neT (a := 5) c30 (by decide); have e6 := lv_neT (a := 6) c34 (by decide); omega) (by decide) ?_
  refine lv_aload_n hx hb dX9_isSo_165 rfl (lv_at hl 0 rfl) ?_
  refine lv_iload_n hx hb dX9_isSo_166 rfl (lv_at hl 1 rfl) ?_
  refine lv_iconst (v := 3) hx hb dX9_isSo_167 (by decide) ?_
  refine lv_isub hx hb dX9_isSo_168 ?_
  refine lv_aload_n hx hb dX9_isSo_169 rfl (lv_at hl 0 rfl) ?_
  refine ggM_27 X E hP inX9_isSo_X9 lkX9_isSo_0 dX9_isSo_170 ?_
  obtain ⟨u37, h38, hf⟩ := g_bind hf
  refine g_vi (rest := []) X E hP hS (tcX9_isAsked l G _ _ _ h38) (g_cwV X gX9_isSo_X9_isAsked rfl hdX9_isAsked ⟨Nat.le_of_ble_eq_true rfl, Nat.le_of_ble_eq_true rfl⟩) (rcM_model E hP) rfl hl.1 rfl (Nat.le_of_ble_eq_true rfl) dX9_isSo_173 ⟨Nat.le_refl _, Nat.le_refl _⟩ (fun H locs hP hS => ?_)
  obtain ⟨z39, hf⟩ := g_if hf
  obtain rfl := g_some hf
  exact g_rz (v := u37) X E hP hS (g_bool z39) dX9_isSo_176
theorem lkX9_item_0 : Cond.fieldLink RX9 72 RX9 "numbers" "[I" ∈ wsX9_item := by decide +kernel
theorem lkX9_item_1 : Cond.fieldLink RX9 75 RX9 "tell" "[I" ∈ wsX9_item := by decide +kernel
theorem lkX9_item_2 : Cond.fieldLink RX9 44 RX9 "holder" "[I" ∈ wsX9_item := by decide +kernel
theorem lkX9_item_3 : Cond.fieldLink RX9 47 RX9 "first" "[I" ∈ wsX9_item := by decide +kernel
theorem lkX9_item_4 : Cond.fieldLink RX9 32 RX9 "behind" "[I" ∈ wsX9_item := by decide +kernel
theorem lkX9_item_5 : Cond.fieldLink RX9 35 RX9 "ahead" "[I" ∈ wsX9_item := by decide +kernel
theorem lkX9_item_6 : Cond.fieldLink RX9 147 RX9 "at" "I" ∈ wsX9_item := by decide +kernel
theorem lkX9_item_7 : Cond.fieldLink RX9 156 RX9 "number" "I" ∈ wsX9_item := by decide +kernel
theorem lkX9_item_8 : Cond.fieldLink RX9 150 RX9 "end" "I" ∈ wsX9_item := by decide +kernel
theorem lkX9_item_9 : Cond.fieldLink RX9 62 RX9 "cells" "[J" ∈ wsX9_item := by decide +kernel
theorem lkX9_item_10 : Cond.fieldLink RX9 153 RX9 "base" "I" ∈ wsX9_item := by decide +kernel
theorem lkX9_item_11 : Cond.fieldLink RX9 91 RX9 "many" "I" ∈ wsX9_item := by decide +kernel
theorem inX9_item_X9 : ∀ w ∈ wsX90, w ∈ wsX9_item := by decide +kernel
def fX9_item_40 : Nat → GS → Int32 → Int32 → Option (Int32 × GS)
  | 0, _, _, _ => none
  | fu + 1, S, v1, v2 =>
    if v1 < 0 ∨ 7 ≤ (v1).toNatClampNeg then none else
    if (S.2.2.1 22 (v1).toNatClampNeg) ≤ v2 then
      if v1 = (0 : Int32) then
        (fX9_adds S (S.2.2.1 23 (0 : Int32).toNatClampNeg) (S.2.2.1 23 (1 : Int32).toNatClampNeg) (S.2.2.1 23 (2 : Int32).toNatClampNeg) (S.2.2.1 23 (3 : Int32).toNatClampNeg) (S.2.2.1 23 (4 : Int32).toNatClampNeg) (S.2.2.1 23 (5 : Int32).toNatClampNeg)).bind fun u10 =>
        some ((1 : Int32), u10.2)
      else if v1 = (1 : Int32) then
        if (S.2.2.1 23 (0 : Int32).toNatClampNeg) < 0 ∨ 16 ≤ (S.2.2.1 23 (0 : Int32).toNatClampNeg).toNatClampNeg then none else
        some ((1 : Int32), (gU3 S 13 (S.2.2.1 23 (0 : Int32).toNatClampNeg).toNatClampNeg (S.2.2.1 23 (1 : Int32).toNatClampNeg)))
      else if v1 = (2 : Int32) then
        if (S.2.2.1 23 (0 : Int32).toNatClampNeg) < 0 ∨ 16 ≤ (S.2.2.1 23 (0 : Int32).toNatClampNeg).toNatClampNeg then none else
        some ((1 : Int32), (gU3 S 14 (S.2.2.1 23 (0 : Int32).toNatClampNeg).toNatClampNeg (S.2.2.1 23 (1 : Int32).toNatClampNeg)))
      else if v1 = (3 : Int32) then
        (fX9_asks S (v1 - (3 : Int32)) (S.2.2.1 23 (0 : Int32).toNatClampNeg)).bind fun u17 =>
        some ((1 : Int32), u17.2)
      else if v1 = (4 : Int32) then
        (fX9_asks S (v1 - (3 : Int32)) (S.2.2.1 23 (0 : Int32).toNatClampNeg)).bind fun u20 =>
        some ((1 : Int32), u20.2)
      else if v1 = (5 : Int32) then
        (fX9_asks S (v1 - (3 : Int32)) (S.2.2.1 23 (0 : Int32).toNatClampNeg)).bind fun u23 =>
        some ((1 : Int32), u23.2)
      else if v1 = (6 : Int32) then
        if (S.2.2.1 23 (0 : Int32).toNatClampNeg) < 0 ∨ 16 ≤ (S.2.2.1 23 (0 : Int32).toNatClampNeg).toNatClampNeg then none else
        if ((gU3 S 9 (S.2.2.1 23 (0 : Int32).toNatClampNeg).toNatClampNeg (S.2.2.1 23 (1 : Int32).toNatClampNeg)).2.2.1 23 (0 : Int32).toNatClampNeg) < 0 ∨ 16 ≤ ((gU3 S 9 (S.2.2.1 23 (0 : Int32).toNatClampNeg).toNatClampNeg (S.2.2.1 23 (1 : Int32).toNatClampNeg)).2.2.1 23 (0 : Int32).toNatClampNeg).toNatClampNeg then none else
        gLet (gU3 (gU3 S 9 (S.2.2.1 23 (0 : Int32).toNatClampNeg).toNatClampNeg (S.2.2.1 23 (1 : Int32).toNatClampNeg)) 10 ((gU3 S 9 (S.2.2.1 23 (0 : Int32).toNatClampNeg).toNatClampNeg (S.2.2.1 23 (1 : Int32).toNatClampNeg)).2.2.1 23 (0 : Int32).toNatClampNeg).toNatClampNeg ((gU3 S 9 (S.2.2.1 23 (0 : Int32).toNatClampNeg).toNatClampNeg (S.2.2.1 23 (1 : Int32).toNatClampNeg)).2.2.1 23 (2 : Int32).toNatClampNeg)) fun T28 =>
        some ((1 : Int32), T28)
      else (fX9_asks S (v1 - (3 : Int32)) (S.2.2.1 23 (0 : Int32).toNatClampNeg)).bind fun u30 =>
      some ((1 : Int32), u30.2)
    else
      if v2 ≤ 0 then
        (fX9_reads S).bind fun u33 =>
        if u33.1 = 0 then
          some ((0 : Int32), u33.2)
        else
          (fX9_isSo u33.2 v1 v2).bind fun u36 =>
          if u36 = 0 then
            (fX9_wrong u33.2 (S.1 25)).bind fun u40 =>
            if ¬ (u40.1 = 0 ∨ u40.1 = 1) then none else
            some (u40.1, u40.2)
          else
            if v2 < 0 ∨ 6 ≤ (v2).toNatClampNeg then none else
            fX9_item_40 fu (gU3 u33.2 23 (v2).toNatClampNeg (u33.2.1 27)) v1 (v2 + 1)
      else
        if (S.1 26) ≤ (S.1 25) then
          (fX9_wrong S (S.1 25)).bind fun u44 =>
          if ¬ (u44.1 = 0 ∨ u44.1 = 1) then none else
          some (u44.1, u44.2)
        else
          if ((S.1 24) + (S.1 25)) < 0 ∨ 1280 ≤ ((S.1 24) + (S.1 25)).toNatClampNeg then none else
          if ((S.2.2.2 19 ((S.1 24) + (S.1 25)).toNatClampNeg)).toInt32 = (32 : Int32) then
            (fX9_reads (gU1 S 25 ((S.1 25) + (1 : Int32)))).bind fun u49 =>
            if u49.1 = 0 then
              some ((0 : Int32), u49.2)
            else
              (fX9_isSo u49.2 v1 v2).bind fun u52 =>
              if u52 = 0 then
                (fX9_wrong u49.2 ((gU1 S 25 ((S.1 25) + (1 : Int32))).1 25)).bind fun u56 =>
                if ¬ (u56.1 = 0 ∨ u56.1 = 1) then none else
                some (u56.1, u56.2)
              else
                if v2 < 0 ∨ 6 ≤ (v2).toNatClampNeg then none else
                fX9_item_40 fu (gU3 u49.2 23 (v2).toNatClampNeg (u49.2.1 27)) v1 (v2 + 1)
          else
            (fX9_wrong S (S.1 25)).bind fun u59 =>
            if ¬ (u59.1 = 0 ∨ u59.1 = 1) then none else
            some (u59.1, u59.2)
set_option maxHeartbeats 4000000 in
set_option maxRecDepth 100000 in
theorem bX9_item_40 {p : Program} {l : Launch} {e : Env} {s : State} {m : MethodId} {args : Array Value} {below : List Frame} {meth : Method} {c : Code} {G : GP} (X : GX p s m meth c args cX9_item 4 (some .boolean) wsX9_item RX9) (E : gE WM G s)  : ∀ (fu : Nat) (S : GS) (v1 : Int32) (v2 : Int32) (R : (Int32 × GS)) (H : Heap) (locs : List Loc) (ls : Array Slot) (_ : fX9_item_40 fu S v1 v2 = some R) (_ : va_P (gD G) vwCl (WM G S ++ gF G) H) (_ : va_S (gA G) s.heap H locs) (_ : lv_has ls 4 [(0, .ref (ga G 63)), (1, .int v1), (2, .int v2)]), W p l e (gR 3 65) s m args below meth c H locs 0 0 (MQ below (gQi WM G R.1 R.2) args s 0 0 (gA G)) (F0 m 40 ls []) := by
  obtain ⟨hx, hb, -, -, hown, hts, -⟩ := id X
  intro fu
  induction fu with
  | zero =>
    intro S v1 v2 R H locs ls hf
    cases (show (none : Option (Int32 × GS)) = some R from hf)
  | succ fu ih =>
    intro S v1 v2 R H locs ls hf hP hS hl
    rw [fX9_item_40] at hf
    refine lv_iload_n hx hb dX9_item_40 rfl (lv_at hl 2 rfl) ?_
    refine lv_aload_n hx hb dX9_item_41 rfl (lv_at hl 0 rfl) ?_
    refine ggM_22 X E hP inX9_item_X9 lkX9_item_0 dX9_item_42 ?_
    refine lv_iload_n hx hb dX9_item_45 rfl (lv_at hl 1 rfl) ?_
    obtain ⟨b7, hf⟩ := g_if hf
    refine giM_22 X E hP b7 dX9_item_46 ?_
    refine lv_icmp_ge (tgt := 149) hx hb dX9_item_47 (by decide) (fun c8 => ?_) (fun c8 => ?_)
    · have hf := g_ift hf c8
      refine lv_iload_n hx hb dX9_item_149 rfl (lv_at hl 1 rfl) ?_
      by_cases c9 : v1 = (0 : Int32)
      · have hf := g_ift hf c9
        refine g_tin (k := (0 : Int32)) (off := 42) (tgt := 192) hx hb dX9_item_150 c9 (by decide) ?_
        refine lv_aload_n hx hb dX9_item_192 rfl (lv_at hl 0 rfl) ?_
        refine lv_aload_n hx hb dX9_item_193 rfl (lv_at hl 0 rfl) ?_
        refine ggM_23 X E hP inX9_item_X9 lkX9_item_1 dX9_item_194 ?_
        refine lv_iconst (v := 0) hx hb dX9_item_197 (by decide) ?_
        refine giM_23 X E hP (by decide) dX9_item_198 ?_
        refine lv_aload_n hx hb dX9_item_199 rfl (lv_at hl 0 rfl) ?_
        refine ggM_23 X E hP inX9_item_X9 lkX9_item_1 dX9_item_200 ?_
        refine lv_iconst (v := 1) hx hb dX9_item_203 (by decide) ?_
        refine giM_23 X E hP (by decide) dX9_item_204 ?_
        refine lv_aload_n hx hb dX9_item_205 rfl (lv_at hl 0 rfl) ?_
        refine ggM_23 X E hP inX9_item_X9 lkX9_item_1 dX9_item_206 ?_
        refine lv_iconst (v := 2) hx hb dX9_item_209 (by decide) ?_
        refine giM_23 X E hP (by decide) dX9_item_210 ?_
        refine lv_aload_n hx hb dX9_item_211 rfl (lv_at hl 0 rfl) ?_
        refine ggM_23 X E hP inX9_item_X9 lkX9_item_1 dX9_item_212 ?_
        refine lv_iconst (v := 3) hx hb dX9_item_215 (by decide) ?_
        refine giM_23 X E hP (by decide) dX9_item_216 ?_
        refine lv_aload_n hx hb dX9_item_217 rfl (lv_at hl 0 rfl) ?_
        refine ggM_23 X E hP inX9_item_X9 lkX9_item_1 dX9_item_218 ?_
        refine lv_iconst (v := 4) hx hb dX9_item_221 (by decide) ?_
        refine giM_23 X E hP (by decide) dX9_item_222 ?_
        refine lv_aload_n hx hb dX9_item_223 rfl (lv_at hl 0 rfl) ?_
        refine ggM_23 X E hP inX9_item_X9 lkX9_item_1 dX9_item_224 ?_
        refine lv_iconst (v := 5) hx hb dX9_item_227 (by decide) ?_
        refine giM_23 X E hP (by decide) dX9_item_228 ?_
        obtain ⟨u10, h11, hf⟩ := g_bind hf
        refine g_vi (rest := []) X E hP hS (tcX9_adds l G _ _ _ _ _ _ _ h11) (g_cwV X gX9_item_X9_adds rfl hdX9_adds ⟨Nat.le_of_ble_eq_true rfl, Nat.le_of_ble_eq_true rfl⟩) (rcM_model E hP) rfl hl.1 rfl (Nat.le_of_ble_eq_true rfl) dX9_item_229 ⟨Nat.le_refl _, Nat.le_refl _⟩ (fun H locs hP hS => ?_)
        refine lv_pop hx hb dX9_item_232 rfl ?_
        refine lv_goto (tgt := 327) hx hb dX9_item_233 (by decide) ?_
        refine lv_iconst (v := 1) hx hb dX9_item_327 (by decide) ?_
        obtain rfl := g_some hf
        exact g_rz (v := (1 : Int32)) X E hP hS rfl dX9_item_328
      have hf := g_iff hf c9
      by_cases c12 : v1 = (1 : Int32)
      · have hf := g_ift hf c12
        refine g_tin (k := (1 : Int32)) (off := 86) (tgt := 236) hx hb dX9_item_150 c12 (by decide) ?_
        refine lv_aload_n hx hb dX9_item_236 rfl (lv_at hl 0 rfl) ?_
        refine ggM_13 X E hP inX9_item_X9 lkX9_item_2 dX9_item_237 ?_
        refine lv_aload_n hx hb dX9_item_240 rfl (lv_at hl 0 rfl) ?_
        refine ggM_23 X E hP inX9_item_X9 lkX9_item_1 dX9_item_241 ?_
        refine lv_iconst (v := 0) hx hb dX9_item_244 (by decide) ?_
        refine giM_23 X E hP (by decide) dX9_item_245 ?_
        refine lv_aload_n hx hb dX9_item_246 rfl (lv_at hl 0 rfl) ?_
        refine ggM_23 X E hP inX9_item_X9 lkX9_item_1 dX9_item_247 ?_
        refine lv_iconst (v := 1) hx hb dX9_item_250 (by decide) ?_
        refine giM_23 X E hP (by decide) dX9_item_251 ?_
        obtain ⟨b13, hf⟩ := g_if hf
        refine gsM_13 X E hP hS b13 dX9_item_252 (fun H locs hP hS => ?_)
        refine lv_goto (tgt := 327) hx hb dX9_item_253 (by decide) ?_
        refine lv_iconst (v := 1) hx hb dX9_item_327 (by decide) ?_
        obtain rfl := g_some hf
        exact g_rz (v := (1 : Int32)) X E hP hS rfl dX9_item_328
      have hf := g_iff hf c12
      by_cases c14 : v1 = (2 : Int32)
      · have hf := g_ift hf c14
        refine g_tin (k := (2 : Int32)) (off := 106) (tgt := 256) hx hb dX9_item_150 c14 (by decide) ?_
        refine lv_aload_n hx hb dX9_item_256 rfl (lv_at hl 0 rfl) ?_
        refine ggM_14 X E hP inX9_item_X9 lkX9_item_3 dX9_item_257 ?_
        refine lv_aload_n hx hb dX9_item_260 rfl (lv_at hl 0 rfl) ?_
        refine ggM_23 X E hP inX9_item_X9 lkX9_item_1 dX9_item_261 ?_
        refine lv_iconst (v := 0) hx hb dX9_item_264 (by decide) ?_
        refine giM_23 X E hP (by decide) dX9_item_265 ?_
        refine lv_aload_n hx hb dX9_item_266 rfl (lv_at hl 0 rfl) ?_
        refine ggM_23 X E hP inX9_item_X9 lkX9_item_1 dX9_item_267 ?_
        refine lv_iconst (v := 1) hx hb dX9_item_270 (by decide) ?_
        refine giM_23 X E hP (by decide) dX9_item_271 ?_
        obtain ⟨b15, hf⟩ := g_if hf
        refine gsM_14 X E hP hS b15 dX9_item_272 (fun H locs hP hS => ?_)
        refine lv_goto (tgt := 327) hx hb dX9_item_273 (by decide) ?_
        refine lv_iconst (v := 1) hx hb dX9_item_327 (by decide) ?_
        obtain rfl := g_some hf
        exact g_rz (v := (1 : Int32)) X E hP hS rfl dX9_item_328
      have hf := g_iff hf c14
      by_cases c16 : v1 = (3 : Int32)
      · have hf := g_ift hf c16
        refine g_tin (k := (3 : Int32)) (off := 163) (tgt := 313) hx hb dX9_item_150 c16 (by decide) ?_
        refine lv_aload_n hx hb dX9_item_313 rfl (lv_at hl 0 rfl) ?_
        refine lv_iload_n hx hb dX9_item_314 rfl (lv_at hl 1 rfl) ?_
        refine lv_iconst (v := 3) hx hb dX9_item_315 (by decide) ?_
        refine lv_isub hx hb dX9_item_316 ?_
        refine lv_aload_n hx hb dX9_item_317 rfl (lv_at hl 0 rfl) ?_
        refine ggM_23 X E hP inX9_item_X9 lkX9_item_1 dX9_item_318 ?_
        refine lv_iconst (v := 0) hx hb dX9_item_321 (by decide) ?_
        refine giM_23 X E hP (by decide) dX9_item_322 ?_
        obtain ⟨u17, h18, hf⟩ := g_bind hf
        refine g_vi (rest := []) X E hP hS (tcX9_asks l G _ _ _ h18) (g_cwV X gX9_item_X9_asks rfl hdX9_asks ⟨Nat.le_of_ble_eq_true rfl, Nat.le_of_ble_eq_true rfl⟩) (rcM_model E hP) rfl hl.1 rfl (Nat.le_of_ble_eq_true rfl) dX9_item_323 ⟨Nat.le_refl _, Nat.le_refl _⟩ (fun H locs hP hS => ?_)
        refine lv_pop hx hb dX9_item_326 rfl ?_
        refine lv_iconst (v := 1) hx hb dX9_item_327 (by decide) ?_
        obtain rfl := g_some hf
        exact g_rz (v := (1 : Int32)) X E hP hS rfl dX9_item_328
      have hf := g_iff hf c16
      by_cases c19 : v1 = (4 : Int32)
      · have hf := g_ift hf c19
        refine g_tin (k := (4 : Int32)) (off := 163) (tgt := 313) hx hb dX9_item_150 c19 (by decide) ?_
        refine lv_aload_n hx hb dX9_item_313 rfl (lv_at hl 0 rfl) ?_
        refine lv_iload_n hx hb dX9_item_314 rfl (lv_at hl 1 rfl) ?_
        refine lv_iconst (v := 3) hx hb dX9_item_315 (by decide) ?_
        refine lv_isub hx hb dX9_item_316 ?_
        refine lv_aload_n hx hb dX9_item_317 rfl (lv_at hl 0 rfl) ?_
        refine ggM_23 X E hP inX9_item_X9 lkX9_item_1 dX9_item_318 ?_
        refine lv_iconst (v := 0) hx hb dX9_item_321 (by decide) ?_
        refine giM_23 X E hP (by decide) dX9_item_322 ?_
        obtain ⟨u20, h21, hf⟩ := g_bind hf
        refine g_vi (rest := []) X E hP hS (tcX9_asks l G _ _ _ h21) (g_cwV X gX9_item_X9_asks rfl hdX9_asks ⟨Nat.le_of_ble_eq_true rfl, Nat.le_of_ble_eq_true rfl⟩) (rcM_model E hP) rfl hl.1 rfl (Nat.le_of_ble_eq_true rfl) dX9_item_323 ⟨Nat.le_refl _, Nat.le_refl _⟩ (fun H locs hP hS => ?_)
        refine lv_pop hx hb dX9_item_326 rfl ?_
        refine lv_iconst (v := 1) hx hb dX9_item_327 (by decide) ?_
        obtain rfl := g_some hf
        exact g_rz (v := (1 : Int32)) X E hP hS rfl dX9_item_328
      have hf := g_iff hf c19
      by_cases c22 : v1 = (5 : Int32)
      · have hf := g_ift hf c22
        refine g_tin (k := (5 : Int32)) (off := 163) (tgt := 313) hx hb dX9_item_150 c22 (by decide) ?_
        refine lv_aload_n hx hb dX9_item_313 rfl (lv_at hl 0 rfl) ?_
        refine lv_iload_n hx hb dX9_item_314 rfl (lv_at hl 1 rfl) ?_
        refine lv_iconst (v := 3) hx hb dX9_item_315 (by decide) ?_
        refine lv_isub hx hb dX9_item_316 ?_
        refine lv_aload_n hx hb dX9_item_317 rfl (lv_at hl 0 rfl) ?_
        refine ggM_23 X E hP inX9_item_X9 lkX9_item_1 dX9_item_318 ?_
        refine lv_iconst (v := 0) hx hb dX9_item_321 (by decide) ?_
        refine giM_23 X E hP (by decide) dX9_item_322 ?_
        obtain ⟨u23, h24, hf⟩ := g_bind hf
        refine g_vi (rest := []) X E hP hS (tcX9_asks l G _ _ _ h24) (g_cwV X gX9_item_X9_asks rfl hdX9_asks ⟨Nat.le_of_ble_eq_true rfl, Nat.le_of_ble_eq_true rfl⟩) (rcM_model E hP) rfl hl.1 rfl (Nat.le_of_ble_eq_true rfl) dX9_item_323 ⟨Nat.le_refl _, Nat.le_refl _⟩ (fun H locs hP hS => ?_)
        refine lv_pop hx hb dX9_item_326 rfl ?_
        refine lv_iconst (v := 1) hx hb dX9_item_327 (by decide) ?_
        obtain rfl := g_some hf
        exact g_rz (v := (1 : Int32)) X E hP hS rfl dX9_item_328
      have hf := g_iff hf c22
      by_cases c25 : v1 = (6 : Int32)
      · have hf := g_ift hf c25
        refine g_tin (k := (6 : Int32)) (off := 126) (tgt := 276) hx hb dX9_item_150 c25 (by decide) ?_
        refine lv_aload_n hx hb dX9_item_276 rfl (lv_at hl 0 rfl) ?_
        refine ggM_9 X E hP inX9_item_X9 lkX9_item_4 dX9_item_277 ?_
        refine lv_aload_n hx hb dX9_item_280 rfl (lv_at hl 0 rfl) ?_
        refine ggM_23 X E hP inX9_item_X9 lkX9_item_1 dX9_item_281 ?_
        refine lv_iconst (v := 0) hx hb dX9_item_284 (by decide) ?_
        refine giM_23 X E hP (by decide) dX9_item_285 ?_
        refine lv_aload_n hx hb dX9_item_286 rfl (lv_at hl 0 rfl) ?_
        refine ggM_23 X E hP inX9_item_X9 lkX9_item_1 dX9_item_287 ?_
        refine lv_iconst (v := 1) hx hb dX9_item_290 (by decide) ?_
        refine giM_23 X E hP (by decide) dX9_item_291 ?_
        obtain ⟨b26, hf⟩ := g_if hf
        refine gsM_9 X E hP hS b26 dX9_item_292 (fun H locs hP hS => ?_)
        refine lv_aload_n hx hb dX9_item_293 rfl (lv_at hl 0 rfl) ?_
        refine ggM_10 X E hP inX9_item_X9 lkX9_item_5 dX9_item_294 ?_
        refine lv_aload_n hx hb dX9_item_297 rfl (lv_at hl 0 rfl) ?_
        refine ggM_23 X E hP inX9_item_X9 lkX9_item_1 dX9_item_298 ?_
        refine lv_iconst (v := 0) hx hb dX9_item_301 (by decide) ?_
        refine giM_23 X E hP (by decide) dX9_item_302 ?_
        refine lv_aload_n hx hb dX9_item_303 rfl (lv_at hl 0 rfl) ?_
        refine ggM_23 X E hP inX9_item_X9 lkX9_item_1 dX9_item_304 ?_
        refine lv_iconst (v := 2) hx hb dX9_item_307 (by decide) ?_
        refine giM_23 X E hP (by decide) dX9_item_308 ?_
        obtain ⟨b27, hf⟩ := g_if hf
        refine gsM_10 X E hP hS b27 dX9_item_309 (fun H locs hP hS => ?_)
        obtain ⟨T28, e29, hf⟩ := g_let hf
        rw [← e29] at hP
        refine lv_goto (tgt := 327) hx hb dX9_item_310 (by decide) ?_
        refine lv_iconst (v := 1) hx hb dX9_item_327 (by decide) ?_
        obtain rfl := g_some hf
        exact g_rz (v := (1 : Int32)) X E hP hS rfl dX9_item_328
      have hf := g_iff hf c25
      refine lv_tableOut (tgt := 313) hx hb dX9_item_150 (by have e0 := lv_neT (a := 0) c9 (by decide); have e1 := lv_neT (a := 1) c12 (by decide); have e2 := lv_neT (a := 2) c14 (by decide); have e3 := lv_neT (a := 3) c16 (by decide); have e4 := lv_neT (a := 4) c19 (by decide); have e5 := lv_neT (a := 5) c22 (by decide); have e6 := lv_neT (a := 6) c25 (by decide); omega) (by decide) ?_
      refine lv_aload_n hx hb dX9_item_313 rfl (lv_at hl 0 rfl) ?_
      refine lv_iload_n hx hb dX9_item_314 rfl (lv_at hl 1 rfl) ?_
      refine lv_iconst (v := 3) hx hb dX9_item_315 (by decide) ?_
      refine lv_isub hx hb dX9_item_316 ?_
      refine lv_aload_n hx hb dX9_item_317 rfl (lv_at hl 0 rfl) ?_
      refine ggM_23 X E hP inX9_item_X9 lkX9_item_1 dX9_item_318 ?_
      refine lv_iconst (v := 0) hx hb dX9_item_321 (by decide) ?_
      refine giM_23 X E hP (by decide) dX9_item_322 ?_
      obtain ⟨u30, h31, hf⟩ := g_bind hf
      refine g_vi (rest := []) X E hP hS (tcX9_asks l G _ _ _ h31) (g_cwV X gX9_item_X9_asks rfl hdX9_asks ⟨Nat.le_of_ble_eq_true rfl, Nat.le_of_ble_eq_true rfl⟩) (rcM_model E hP) rfl hl.1 rfl (Nat.le_of_ble_eq_true rfl) dX9_item_323 ⟨Nat.le_refl _, Nat.le_refl _⟩ (fun H locs hP hS => ?_)
      refine lv_pop hx hb dX9_item_326 rfl ?_
      refine lv_iconst (v := 1) hx hb dX9_item_327 (by decide) ?_
      obtain rfl := g_some hf
      exact g_rz (v := (1 : Int32)) X E hP hS rfl dX9_item_328
    · have hf := g_iff hf c8
      refine lv_iload_n hx hb dX9_item_50 rfl (lv_at hl 2 rfl) ?_
      refine lv_if_le (tgt := 104) hx hb dX9_item_51 (by decide) (fun c32 => ?_) (fun c32 => ?_)
      · have hf := g_ift hf c32
        refine lv_aload_n hx hb dX9_item_104 rfl (lv_at hl 0 rfl) ?_
        refine ggM_25 X E hP inX9_item_X9 lkX9_item_6 dX9_item_105 ?_
        refine lv_istore_n (lv' := [(3, .int (S.1 25)), (0, .ref (ga G 63)), (1, .int v1), (2, .int v2)]) hx hb dX9_item_108 rfl hl (by decide) rfl (fun ls hl => ?_)
        refine lv_aload_n hx hb dX9_item_109 rfl (lv_at hl 1 rfl) ?_
        obtain ⟨u33, h34, hf⟩ := g_bind hf
        refine g_vi (rest := []) X E hP hS (tcX9_reads l G _  h34) (g_cwV X gX9_item_X9_reads rfl hdX9_reads ⟨Nat.le_of_ble_eq_true rfl, Nat.le_of_ble_eq_true rfl⟩) (rcM_model E hP) rfl hl.1 rfl (Nat.le_of_ble_eq_true rfl) dX9_item_110 ⟨Nat.le_refl _, Nat.le_refl _⟩ (fun H locs hP hS => ?_)
        refine lv_if_ne (tgt := 118) hx hb dX9_item_113 (by decide) (fun c35 => ?_) (fun c35 => ?_)
        · have hf := g_iff hf c35
          refine lv_aload_n hx hb dX9_item_118 rfl (lv_at hl 1 rfl) ?_
          refine lv_iload_n hx hb dX9_item_119 rfl (lv_at hl 2 rfl) ?_
          refine lv_iload_n hx hb dX9_item_120 rfl (lv_at hl 3 rfl) ?_
          obtain ⟨u36, h37, hf⟩ := g_bind hf
          refine g_vi (rest := []) X E hP hS (tcX9_isSo l G _ _ _ h37) (g_cwV X gX9_item_X9_isSo rfl hdX9_isSo ⟨Nat.le_of_ble_eq_true rfl, Nat.le_of_ble_eq_true rfl⟩) (rcM_model E hP) rfl hl.1 rfl (Nat.le_of_ble_eq_true rfl) dX9_item_121 ⟨Nat.le_refl _, Nat.le_refl _⟩ (fun H locs hP hS => ?_)
          refine lv_if_ne (tgt := 133) hx hb dX9_item_124 (by decide) (fun c38 => ?_) (fun c38 => ?_)
          · have hf := g_iff hf c38
            refine lv_aload_n hx hb dX9_item_133 rfl (lv_at hl 1 rfl) ?_
            refine ggM_23 X E hP inX9_item_X9 lkX9_item_1 dX9_item_134 ?_
            refine lv_iload_n hx hb dX9_item_137 rfl (lv_at hl 3 rfl) ?_
            refine lv_aload_n hx hb dX9_item_138 rfl (lv_at hl 1 rfl) ?_
            refine ggM_27 X E hP inX9_item_X9 lkX9_item_7 dX9_item_139 ?_
            obtain ⟨b39, hf⟩ := g_if hf
            refine gsM_23 X E hP hS b39 dX9_item_142 (fun H locs hP hS => ?_)
            refine lv_iinc (v := (v2 + 1)) (lv' := [(2, .int (v2 + 1)), (3, .int (S.1 25)), (0, .ref (ga G 63)), (1, .int v1)]) hx hb dX9_item_143 hl (k := 3) rfl rfl (by decide) rfl (fun ls hl => ?_)
            refine lv_goto (tgt := 40) hx hb dX9_item_146 (by decide) ?_
            exact ih _ _ _ _ _ _ _ hf hP hS (lv_sub hl [2, 3, 0] rfl)
          · have hf := g_ift hf c38
            refine lv_aload_n hx hb dX9_item_127 rfl (lv_at hl 1 rfl) ?_
            refine lv_iload_n hx hb dX9_item_128 rfl (lv_at hl 0 rfl) ?_
            obtain ⟨u40, h41, hf⟩ := g_bind hf
            refine g_vi (rest := []) X E hP hS (tcX9_wrong l G _ _ h41) (g_cwV X gX9_item_X9_wrong rfl hdX9_wrong ⟨Nat.le_of_ble_eq_true rfl, Nat.le_of_ble_eq_true rfl⟩) (rcM_model E hP) rfl hl.1 rfl (Nat.le_of_ble_eq_true rfl) dX9_item_129 ⟨Nat.le_refl _, Nat.le_refl _⟩ (fun H locs hP hS => ?_)
            obtain ⟨z42, hf⟩ := g_if hf
            obtain rfl := g_some hf
            exact g_rz (v := u40.1) X E hP hS (g_bool z42) dX9_item_132
        · have hf := g_ift hf c35
          refine lv_iconst (v := 0) hx hb dX9_item_116 (by decide) ?_
          obtain rfl := g_some hf
          exact g_rz (v := (0 : Int32)) X E hP hS rfl dX9_item_117
      · have hf := g_iff hf c32
        refine lv_aload_n hx hb dX9_item_54 rfl (lv_at hl 0 rfl) ?_
        refine ggM_25 X E hP inX9_item_X9 lkX9_item_6 dX9_item_55 ?_
        refine lv_aload_n hx hb dX9_item_58 rfl (lv_at hl 0 rfl) ?_
        refine ggM_26 X E hP inX9_item_X9 lkX9_item_8 dX9_item_59 ?_
        refine lv_icmp_ge (tgt := 85) hx hb dX9_item_62 (by decide) (fun c43 => ?_) (fun c43 => ?_)
        · have hf := g_ift hf c43
          refine lv_aload_n hx hb dX9_item_85 rfl (lv_at hl 0 rfl) ?_
          refine lv_aload_n hx hb dX9_item_86 rfl (lv_at hl 0 rfl) ?_
          refine ggM_25 X E hP inX9_item_X9 lkX9_item_6 dX9_item_87 ?_
          obtain ⟨u44, h45, hf⟩ := g_bind hf
          refine g_vi (rest := []) X E hP hS (tcX9_wrong l G _ _ h45) (g_cwV X gX9_item_X9_wrong rfl hdX9_wrong ⟨Nat.le_of_ble_eq_true rfl, Nat.le_of_ble_eq_true rfl⟩) (rcM_model E hP) rfl hl.1 rfl (Nat.le_of_ble_eq_true rfl) dX9_item_90 ⟨Nat.le_refl _, Nat.le_refl _⟩ (fun H locs hP hS => ?_)
          obtain ⟨z46, hf⟩ := g_if hf
          obtain rfl := g_some hf
          exact g_rz (v := u44.1) X E hP hS (g_bool z46) dX9_item_93
        · have hf := g_iff hf c43
          refine lv_aload_n hx hb dX9_item_65 rfl (lv_at hl 0 rfl) ?_
          refine ggM_19 X E hP inX9_item_X9 lkX9_item_9 dX9_item_66 ?_
          refine lv_aload_n hx hb dX9_item_69 rfl (lv_at hl 0 rfl) ?_
          refine ggM_24 X E hP inX9_item_X9 lkX9_item_10 dX9_item_70 ?_
          refine lv_aload_n hx hb dX9_item_73 rfl (lv_at hl 0 rfl) ?_
          refine ggM_25 X E hP inX9_item_X9 lkX9_item_6 dX9_item_74 ?_
          refine lv_iadd hx hb dX9_item_77 ?_
          obtain ⟨b47, hf⟩ := g_if hf
          refine giM_19 X E hP b47 dX9_item_78 ?_
          refine lv_l2i hx hb dX9_item_79 rfl ?_
          refine lv_bipush (v := 32) hx hb dX9_item_80 (by decide) ?_
          refine lv_icmp_eq (tgt := 94) hx hb dX9_item_82 (by decide) (fun c48 => ?_) (fun c48 => ?_)
          · have hf := g_ift hf c48
            refine lv_aload_n hx hb dX9_item_94 rfl (lv_at hl 0 rfl) ?_
            refine lv_dup hx hb dX9_item_95 rfl ?_
            refine ggM_25 X E hP inX9_item_X9 lkX9_item_6 dX9_item_96 ?_
            refine lv_iconst (v := 1) hx hb dX9_item_99 (by decide) ?_
            refine lv_iadd hx hb dX9_item_100 ?_
            refine gpM_25 X E hP hS inX9_item_X9 lkX9_item_6 dX9_item_101 (fun H locs hP hS => ?_)
            refine lv_aload_n hx hb dX9_item_104 rfl (lv_at hl 0 rfl) ?_
            refine ggM_25 X E hP inX9_item_X9 lkX9_item_6 dX9_item_105 ?_
            refine lv_istore_n (lv' := [(3, .int ((gU1 S 25 ((S.1 25) + (1 : Int32))).1 25)), (0, .ref (ga G 63)), (1, .int v1), (2, .int v2)]) hx hb dX9_item_108 rfl hl (by decide) rfl (fun ls hl => ?_)
            refine lv_aload_n hx hb dX9_item_109 rfl (lv_at hl 1 rfl) ?_
            obtain ⟨u49, h50, hf⟩ := g_bind hf
            refine g_vi (rest := []) X E hP hS (tcX9_reads l G _  h50) (g_cwV X gX9_item_X9_reads rfl hdX9_reads ⟨Nat.le_of_ble_eq_true rfl, Nat.le_of_ble_eq_true rfl⟩) (rcM_model E hP) rfl hl.1 rfl (Nat.le_of_ble_eq_true rfl) dX9_item_110 ⟨Nat.le_refl _, Nat.le_refl _⟩ (fun H locs hP hS => ?_)
            refine lv_if_ne (tgt := 118) hx hb dX9_item_113 (by decide) (fun c51 => ?_) (fun c51 => ?_)
            · have hf := g_iff hf c51
              refine lv_aload_n hx hb dX9_item_118 rfl (lv_at hl 1 rfl) ?_
              refine lv_iload_n hx hb dX9_item_119 rfl (lv_at hl 2 rfl) ?_
              refine lv_iload_n hx hb dX9_item_120 rfl (lv_at hl 3 rfl) ?_
              obtain ⟨u52, h53, hf⟩ := g_bind hf
              refine g_vi (rest := []) X E hP hS (tcX9_isSo l G _ _ _ h53) (g_cwV X gX9_item_X9_isSo rfl hdX9_isSo ⟨Nat.le_of_ble_eq_true rfl, Nat.le_of_ble_eq_true rfl⟩) (rcM_model E hP) rfl hl.1 rfl (Nat.le_of_ble_eq_true rfl) dX9_item_121 ⟨Nat.le_refl _, Nat.le_refl _⟩ (fun H locs hP hS => ?_)
              refine lv_if_ne (tgt := 133) hx hb dX9_item_124 (by decide) (fun c54 => ?_) (fun c54 => ?_)
              · have hf := g_iff hf c54
                refine lv_aload_n hx hb dX9_item_133 rfl (lv_at hl 1 rfl) ?_
                refine ggM_23 X E hP inX9_item_X9 lkX9_item_1 dX9_item_134 ?_
                refine lv_iload_n hx hb dX9_item_137 rfl (lv_at hl 3 rfl) ?_
                refine lv_aload_n hx hb dX9_item_138 rfl (lv_at hl 1 rfl) ?_
                refine ggM_27 X E hP inX9_item_X9 lkX9_item_7 dX9_item_139 ?_
                obtain ⟨b55, hf⟩ := g_if hf
                refine gsM_23 X E hP hS b55 dX9_item_142 (fun H locs hP hS => ?_)
                refine lv_iinc (v := (v2 + 1)) (lv' := [(2, .int (v2 + 1)), (3, .int ((gU1 S 25 ((S.1 25) + (1 : Int32))).1 25)), (0, .ref (ga G 63)), (1, .int v1)]) hx hb dX9_item_143 hl (k := 3) rfl rfl (by decide) rfl (fun ls hl => ?_)
                refine lv_goto (tgt := 40) hx hb dX9_item_146 (by decide) ?_
                exact ih _ _ _ _ _ _ _ hf hP hS (lv_sub hl [2, 3, 0] rfl)
              · have hf := g_ift hf c54
                refine lv_aload_n hx hb dX9_item_127 rfl (lv_at hl 1 rfl) ?_
                refine lv_iload_n hx hb dX9_item_128 rfl (lv_at hl 0 rfl) ?_
                obtain ⟨u56, h57, hf⟩ := g_bind hf
                refine g_vi (rest := []) X E hP hS (tcX9_wrong l G _ _ h57) (g_cwV X gX9_item_X9_wrong rfl hdX9_wrong ⟨Nat.le_of_ble_eq_true rfl, Nat.le_of_ble_eq_true rfl⟩) (rcM_model E hP) rfl hl.1 rfl (Nat.le_of_ble_eq_true rfl) dX9_item_129 ⟨Nat.le_refl _, Nat.le_refl _⟩ (fun H locs hP hS => ?_)
                obtain ⟨z58, hf⟩ := g_if hf
                obtain rfl := g_some hf
                exact g_rz (v := u56.1) X E hP hS (g_bool z58) dX9_item_132
            · have hf := g_ift hf c51
              refine lv_iconst (v := 0) hx hb dX9_item_116 (by decide) ?_
              obtain rfl := g_some hf
              exact g_rz (v := (0 : Int32)) X E hP hS rfl dX9_item_117
          · have hf := g_iff hf c48
            refine lv_aload_n hx hb dX9_item_85 rfl (lv_at hl 0 rfl) ?_
            refine lv_aload_n hx hb dX9_item_86 rfl (lv_at hl 0 rfl) ?_
            refine ggM_25 X E hP inX9_item_X9 lkX9_item_6 dX9_item_87 ?_
            obtain ⟨u59, h60, hf⟩ := g_bind hf
            refine g_vi (rest := []) X E hP hS (tcX9_wrong l G _ _ h60) (g_cwV X gX9_item_X9_wrong rfl hdX9_wrong ⟨Nat.le_of_ble_eq_true rfl, Nat.le_of_ble_eq_true rfl⟩) (rcM_model E hP) rfl hl.1 rfl (Nat.le_of_ble_eq_true rfl) dX9_item_90 ⟨Nat.le_refl _, Nat.le_refl _⟩ (fun H locs hP hS => ?_)
            obtain ⟨z61, hf⟩ := g_if hf
            obtain rfl := g_some hf
            exact g_rz (v := u59.1) X E hP hS (g_bool z61) dX9_item_93
def fX9_item_L26 (S : GS)  : Option (Int32 × GS) :=
  (fX9_word S).bind fun u4 =>
  if u4.1 = (-1 : Int32) then
    some ((0 : Int32), u4.2)
  else
    fX9_item_40 gFuel u4.2 u4.1 (0 : Int32)
set_option maxHeartbeats 4000000 in
set_option maxRecDepth 100000 in
theorem bX9_item_L26 {p : Program} {l : Launch} {e : Env} {s : State} {m : MethodId} {args : Array Value} {below : List Frame} {meth : Method} {c : Code} {G : GP} (X : GX p s m meth c args cX9_item 4 (some .boolean) wsX9_item RX9) (E : gE WM G s) (S : GS)  (R : (Int32 × GS)) (H : Heap) (locs : List Loc) (ls : Array Slot) (hf : fX9_item_L26 S  = some R) (hP : va_P (gD G) vwCl (WM G S ++ gF G) H) (hS : va_S (gA G) s.heap H locs) (hl : lv_has ls 4 [(0, .ref (ga G 63))]) : W p l e (gR 3 65) s m args below meth c H locs 0 0 (MQ below (gQi WM G R.1 R.2) args s 0 0 (gA G)) (F0 m 26 ls []) := by
  obtain ⟨hx, hb, -, -, hown, hts, -⟩ := id X
  rw [fX9_item_L26] at hf
  refine lv_aload_n hx hb dX9_item_26 rfl (lv_at hl 0 rfl) ?_
  obtain ⟨u4, h5, hf⟩ := g_bind hf
  refine g_vi (rest := []) X E hP hS (tcX9_word l G _  h5) (g_cwV X gX9_item_X9_word rfl hdX9_word ⟨Nat.le_of_ble_eq_true rfl, Nat.le_of_ble_eq_true rfl⟩) (rcM_model E hP) rfl hl.1 rfl (Nat.le_of_ble_eq_true rfl) dX9_item_27 ⟨Nat.le_refl _, Nat.le_refl _⟩ (fun H locs hP hS => ?_)
  refine lv_istore_n (lv' := [(1, .int u4.1), (0, .ref (ga G 63))]) hx hb dX9_item_30 rfl hl (by decide) rfl (fun ls hl => ?_)
  refine lv_iload_n hx hb dX9_item_31 rfl (lv_at hl 0 rfl) ?_
  refine lv_iconst (v := -1) hx hb dX9_item_32 (by decide) ?_
  refine lv_icmp_ne (tgt := 38) hx hb dX9_item_33 (by decide) (fun c6 => ?_) (fun c6 => ?_)
  · have hf := g_iff hf c6
    refine lv_iconst (v := 0) hx hb dX9_item_38 (by decide) ?_
    refine lv_istore_n (lv' := [(2, .int (0 : Int32)), (1, .int u4.1), (0, .ref (ga G 63))]) hx hb dX9_item_39 rfl hl (by decide) rfl (fun ls hl => ?_)
    exact bX9_item_40 X E gFuel _ _ _ _ _ _ _ hf hP hS (lv_sub hl [2, 1, 0] rfl)
  · have hf := g_ift hf c6
    refine lv_iconst (v := 0) hx hb dX9_item_36 (by decide) ?_
    obtain rfl := g_some hf
    exact g_rz (v := (0 : Int32)) X E hP hS rfl dX9_item_37
def fX9_item (S : GS)  : Option (Int32 × GS) :=
  (fX9_stands S (0 : Int32)).bind fun u1 =>
  if u1 = 0 then
    fX9_item_L26 S
  else
    if (S.1 0) = (16 : Int32) then
      (fX9_wrong S (S.1 25)).bind fun u63 =>
      if ¬ (u63.1 = 0 ∨ u63.1 = 1) then none else
      some (u63.1, u63.2)
    else
      fX9_item_L26 S
set_option maxHeartbeats 4000000 in
set_option maxRecDepth 100000 in
theorem tcX9_item (l : Launch) (G : GP) (S : GS)  {R : (Int32 × GS)} (hf : fX9_item S  = some R) : CI l yX9_item wsX9_item 3 65 [.ref (ga G 63)] WM G S R.1 R.2 := by
  refine g_met RX9 (cc := cX9_item) (nL := 4) (ret := (some .boolean)) (by decide) rfl rfl (Nat.le_of_ble_eq_true rfl) ?_
  intro p e s m below meth c ls X E hP hS hl
  have hl : lv_has ls 4 [(0, .ref (ga G 63))] := hl
  obtain ⟨hx, hb, -, -, hown, hts, -⟩ := id X
  rw [fX9_item] at hf
  refine lv_aload_n hx hb dX9_item_0 rfl (lv_at hl 0 rfl) ?_
  refine lv_iconst (v := 0) hx hb dX9_item_1 (by decide) ?_
  obtain ⟨u1, h2, hf⟩ := g_bind hf
  refine g_vi (rest := []) X E hP hS (tcX9_stands l G _ _ h2) (g_cwV X gX9_item_X9_stands rfl hdX9_stands ⟨Nat.le_of_ble_eq_true rfl, Nat.le_of_ble_eq_true rfl⟩) (rcM_model E hP) rfl hl.1 rfl (Nat.le_of_ble_eq_true rfl) dX9_item_2 ⟨Nat.le_refl _, Nat.le_refl _⟩ (fun H locs hP hS => ?_)
  refine lv_if_eq (tgt := 26) hx hb dX9_item_5 (by decide) (fun c3 => ?_) (fun c3 => ?_)
  · have hf := g_ift hf c3
    exact bX9_item_L26 X E _ _ _ _ _ hf hP hS (lv_sub hl [0] rfl)
  · have hf := g_iff hf c3
    refine lv_aload_n hx hb dX9_item_8 rfl (lv_at hl 0 rfl) ?_
    refine ggM_0 X E hP inX9_item_X9 lkX9_item_11 dX9_item_9 ?_
    refine lv_bipush (v := 16) hx hb dX9_item_12 (by decide) ?_
    refine lv_icmp_ne (tgt := 26) hx hb dX9_item_14 (by decide) (fun c62 => ?_) (fun c62 => ?_)
    · have hf := g_iff hf c62
      exact bX9_item_L26 X E _ _ _ _ _ hf hP hS (lv_sub hl [0] rfl)
    · have hf := g_ift hf c62
      refine lv_aload_n hx hb dX9_item_17 rfl (lv_at hl 0 rfl) ?_
      refine lv_aload_n hx hb dX9_item_18 rfl (lv_at hl 0 rfl) ?_
      refine ggM_25 X E hP inX9_item_X9 lkX9_item_6 dX9_item_19 ?_
      obtain ⟨u63, h64, hf⟩ := g_bind hf
      refine g_vi (rest := []) X E hP hS (tcX9_wrong l G _ _ h64) (g_cwV X gX9_item_X9_wrong rfl hdX9_wrong ⟨Nat.le_of_ble_eq_true rfl, Nat.le_of_ble_eq_true rfl⟩) (rcM_model E hP) rfl hl.1 rfl (Nat.le_of_ble_eq_true rfl) dX9_item_22 ⟨Nat.le_refl _, Nat.le_refl _⟩ (fun H locs hP hS => ?_)
      obtain ⟨z65, hf⟩ := g_if hf
      obtain rfl := g_some hf
      exact g_rz (v := u63.1) X E hP hS (g_bool z65) dX9_item_25
theorem lkX9_loop_0 : Cond.fieldLink RX9 78 RX9 "was" "[I" ∈ wsX9_loop := by decide +kernel
theorem lkX9_loop_1 : Cond.fieldLink RX9 153 RX9 "base" "I" ∈ wsX9_loop := by decide +kernel
theorem lkX9_loop_2 : Cond.fieldLink RX9 147 RX9 "at" "I" ∈ wsX9_loop := by decide +kernel
theorem lkX9_loop_3 : Cond.fieldLink RX9 56 RX9 "size" "[I" ∈ wsX9_loop := by decide +kernel
theorem lkX9_loop_4 : Cond.fieldLink RX9 150 RX9 "end" "I" ∈ wsX9_loop := by decide +kernel
theorem lkX9_loop_5 : Cond.fieldLink RX9 19 RX9 "fault" "I" ∈ wsX9_loop := by decide +kernel
theorem lkX9_loop_6 : Cond.fieldLink RX9 62 RX9 "cells" "[J" ∈ wsX9_loop := by decide +kernel
theorem lkX9_loop_7 : Cond.fieldLink RX9 144 RX9 "wrongAt" "I" ∈ wsX9_loop := by decide +kernel
theorem inX9_loop_X9 : ∀ w ∈ wsX90, w ∈ wsX9_loop := by decide +kernel
def fX9_loop_62 : Nat → GS → Int32 → Int32 → Option (Int32 × Int32 × GS)
  | 0, _, _, _ => none
  | fu + 1, S, v3, v4 =>
    if v4 = 0 then
      some (v3, v4, S)
    else
      if (S.1 26) ≤ (S.1 25) then
        some (v3, v4, S)
      else
        if ((S.1 24) + (S.1 25)) < 0 ∨ 1280 ≤ ((S.1 24) + (S.1 25)).toNatClampNeg then none else
        if ((S.2.2.2 19 ((S.1 24) + (S.1 25)).toNatClampNeg)).toInt32 = (59 : Int32) then
          (fX9_item (gU1 S 25 ((S.1 25) + (1 : Int32)))).bind fun u15 =>
          fX9_loop_62 fu u15.2 (v3 + 1) u15.1
        else
          (fX9_wrong S (S.1 25)).bind fun u17 =>
          fX9_loop_62 fu u17.2 v3 u17.1
set_option maxHeartbeats 4000000 in
set_option maxRecDepth 100000 in
theorem bX9_loop_62 {p : Program} {l : Launch} {e : Env} {s : State} {m : MethodId} {args : Array Value} {below : List Frame} {meth : Method} {c : Code} {Q : State → Prop} {G : GP} (X : GX p s m meth c args cX9_loop 5 (some .int) wsX9_loop RX9) (E : gE WM G s)  : ∀ (fu : Nat) (S : GS) (v3 : Int32) (v4 : Int32) (R : (Int32 × Int32 × GS)) (H : Heap) (locs : List Loc) (ls : Array Slot) (_ : fX9_loop_62 fu S v3 v4 = some R) (_ : va_P (gD G) vwCl (WM G S ++ gF G) H) (_ : va_S (gA G) s.heap H locs) (_ : lv_has ls 5 [(0, .ref (ga G 63)), (3, .int v3), (4, .int v4)]) (_ : ∀ (H : Heap) (locs : List Loc) (ls : Array Slot), va_P (gD G) vwCl (WM G R.2.2 ++ gF G) H → va_S (gA G) s.heap H locs → lv_has ls 5 [(0, .ref (ga G 63)), (3, .int R.1), (4, .int R.2.1)] → W p l e (gR 4 88) s m args below meth c H locs 0 0 Q (F0 m 133 ls [])), W p l e (gR 4 88) s m args below meth c H locs 0 0 Q (F0 m 62 ls []) := by
  obtain ⟨hx, hb, -, -, hown, hts, -⟩ := id X
  intro fu
  induction fu with
  | zero =>
    intro S v3 v4 R H locs ls hf
    cases (show (none : Option (Int32 × Int32 × GS)) = some R from hf)
  | succ fu ih =>
    intro S v3 v4 R H locs ls hf hP hS hl kk
    rw [fX9_loop_62] at hf
    refine lv_iload hx hb dX9_loop_62 (lv_at hl 2 rfl) ?_
    refine lv_if_eq (tgt := 133) hx hb dX9_loop_64 (by decide) (fun c11 => ?_) (fun c11 => ?_)
    · have hf := g_ift hf c11
      obtain rfl := g_some hf
      exact kk _ _ _ hP hS (lv_sub hl [0, 1, 2] rfl)
    · have hf := g_iff hf c11
      refine lv_aload_n hx hb dX9_loop_67 rfl (lv_at hl 0 rfl) ?_
      refine ggM_25 X E hP inX9_loop_X9 lkX9_loop_2 dX9_loop_68 ?_
      refine lv_aload_n hx hb dX9_loop_71 rfl (lv_at hl 0 rfl) ?_
      refine ggM_26 X E hP inX9_loop_X9 lkX9_loop_4 dX9_loop_72 ?_
      refine lv_icmp_ge (tgt := 133) hx hb dX9_loop_75 (by decide) (fun c12 => ?_) (fun c12 => ?_)
      · have hf := g_ift hf c12
        obtain rfl := g_some hf
        exact kk _ _ _ hP hS (lv_sub hl [0, 1, 2] rfl)
      · have hf := g_iff hf c12
        refine lv_aload_n hx hb dX9_loop_78 rfl (lv_at hl 0 rfl) ?_
        refine ggM_19 X E hP inX9_loop_X9 lkX9_loop_6 dX9_loop_79 ?_
        refine lv_aload_n hx hb dX9_loop_82 rfl (lv_at hl 0 rfl) ?_
        refine ggM_24 X E hP inX9_loop_X9 lkX9_loop_1 dX9_loop_83 ?_
        refine lv_aload_n hx hb dX9_loop_86 rfl (lv_at hl 0 rfl) ?_
        refine ggM_25 X E hP inX9_loop_X9 lkX9_loop_2 dX9_loop_87 ?_
        refine lv_iadd hx hb dX9_loop_90 ?_
        obtain ⟨b13, hf⟩ := g_if hf
        refine giM_19 X E hP b13 dX9_loop_91 ?_
        refine lv_l2i hx hb dX9_loop_92 rfl ?_
        refine lv_bipush (v := 59) hx hb dX9_loop_93 (by decide) ?_
        refine lv_icmp_eq (tgt := 111) hx hb dX9_loop_95 (by decide) (fun c14 => ?_) (fun c14 => ?_)
        · have hf := g_ift hf c14
          refine lv_aload_n hx hb dX9_loop_111 rfl (lv_at hl 0 rfl) ?_
          refine lv_dup hx hb dX9_loop_112 rfl ?_
          refine ggM_25 X E hP inX9_loop_X9 lkX9_loop_2 dX9_loop_113 ?_
          refine lv_iconst (v := 1) hx hb dX9_loop_116 (by decide) ?_
          refine lv_iadd hx hb dX9_loop_117 ?_
          refine gpM_25 X E hP hS inX9_loop_X9 lkX9_loop_2 dX9_loop_118 (fun H locs hP hS => ?_)
          refine lv_iinc (v := (v3 + 1)) (lv' := [(3, .int (v3 + 1)), (0, .ref (ga G 63)), (4, .int v4)]) hx hb dX9_loop_121 hl (k := 1) rfl rfl (by decide) rfl (fun ls hl => ?_)
          refine lv_aload_n hx hb dX9_loop_124 rfl (lv_at hl 1 rfl) ?_
          obtain ⟨u15, h16, hf⟩ := g_bind hf
          refine g_vi (rest := []) X E hP hS (tcX9_item l G _  h16) (g_cwV X gX9_loop_X9_item rfl hdX9_item ⟨Nat.le_of_ble_eq_true rfl, Nat.le_of_ble_eq_true rfl⟩) (rcM_model E hP) rfl hl.1 rfl (Nat.le_of_ble_eq_true rfl) dX9_loop_125 ⟨Nat.le_refl _, Nat.le_refl _⟩ (fun H locs hP hS => ?_)
          refine lv_istore (lv' := [(4, .int u15.1), (3, .int (v3 + 1)), (0, .ref (ga G 63))]) hx hb dX9_loop_128 hl (by decide) rfl (fun ls hl => ?_)
          refine lv_goto (tgt := 62) hx hb dX9_loop_130 (by decide) ?_
          exact ih _ _ _ _ _ _ _ hf hP hS (lv_sub hl [2, 1, 0] rfl) kk
        · have hf := g_iff hf c14
          refine lv_aload_n hx hb dX9_loop_98 rfl (lv_at hl 0 rfl) ?_
          refine lv_aload_n hx hb dX9_loop_99 rfl (lv_at hl 0 rfl) ?_
          refine ggM_25 X E hP inX9_loop_X9 lkX9_loop_2 dX9_loop_100 ?_
          obtain ⟨u17, h18, hf⟩ := g_bind hf
          refine g_vi (rest := []) X E hP hS (tcX9_wrong l G _ _ h18) (g_cwV X gX9_loop_X9_wrong rfl hdX9_wrong ⟨Nat.le_of_ble_eq_true rfl, Nat.le_of_ble_eq_true rfl⟩) (rcM_model E hP) rfl hl.1 rfl (Nat.le_of_ble_eq_true rfl) dX9_loop_103 ⟨Nat.le_refl _, Nat.le_refl _⟩ (fun H locs hP hS => ?_)
          refine lv_istore (lv' := [(4, .int u17.1), (0, .ref (ga G 63)), (3, .int v3)]) hx hb dX9_loop_106 hl (by decide) rfl (fun ls hl => ?_)
          refine lv_goto (tgt := 62) hx hb dX9_loop_108 (by decide) ?_
          exact ih _ _ _ _ _ _ _ hf hP hS (lv_sub hl [1, 2, 0] rfl) kk
def fX9_loop_L133 (S : GS) (v3 : Int32) (v4 : Int32) : Option (Int32 × GS) :=
  if v4 = 0 then
    (fX9_all_29 S (1 : Int32)).bind fun u22 =>
    (fX9_no (gU1 u22 5 (u22.1 28)) (-6 : Int32)).bind fun u24 =>
    some (u24.1, u24.2)
  else
    some (v3, S)
set_option maxHeartbeats 4000000 in
set_option maxRecDepth 100000 in
theorem bX9_loop_L133 {p : Program} {l : Launch} {e : Env} {s : State} {m : MethodId} {args : Array Value} {below : List Frame} {meth : Method} {c : Code} {G : GP} (X : GX p s m meth c args cX9_loop 5 (some .int) wsX9_loop RX9) (E : gE WM G s) (S : GS) (v3 : Int32) (v4 : Int32) (R : (Int32 × GS)) (H : Heap) (locs : List Loc) (ls : Array Slot) (hf : fX9_loop_L133 S v3 v4 = some R) (hP : va_P (gD G) vwCl (WM G S ++ gF G) H) (hS : va_S (gA G) s.heap H locs) (hl : lv_has ls 5 [(0, .ref (ga G 63)), (3, .int v3), (4, .int v4)]) : W p l e (gR 4 88) s m args below meth c H locs 0 0 (MQ below (gQi WM G R.1 R.2) args s 0 0 (gA G)) (F0 m 133 ls []) := by
  obtain ⟨hx, hb, -, -, hown, hts, -⟩ := id X
  rw [fX9_loop_L133] at hf
  refine lv_iload hx hb dX9_loop_133 (lv_at hl 2 rfl) ?_
  refine lv_if_eq (tgt := 140) hx hb dX9_loop_135 (by decide) (fun c21 => ?_) (fun c21 => ?_)
  · have hf := g_ift hf c21
    refine lv_aload_n hx hb dX9_loop_140 rfl (lv_at hl 0 rfl) ?_
    refine lv_aload_n hx hb dX9_loop_141 rfl (lv_at hl 0 rfl) ?_
    refine ggM_29 X E hP inX9_loop_X9 lkX9_loop_0 dX9_loop_142 ?_
    refine lv_iconst (v := 1) hx hb dX9_loop_145 (by decide) ?_
    obtain ⟨u22, h23, hf⟩ := g_bind hf
    refine g_vv (rest := []) X E hP hS (tcX9_all_29 l G _ _ h23) (g_cwV X gX9_loop_X9_all rfl hdX9_all ⟨Nat.le_of_ble_eq_true rfl, Nat.le_of_ble_eq_true rfl⟩) (rcM_model E hP) rfl hl.1 rfl (Nat.le_of_ble_eq_true rfl) dX9_loop_146 ⟨Nat.le_refl _, Nat.le_refl _⟩ (fun H locs hP hS => ?_)
    refine lv_aload_n hx hb dX9_loop_149 rfl (lv_at hl 0 rfl) ?_
    refine lv_aload_n hx hb dX9_loop_150 rfl (lv_at hl 0 rfl) ?_
    refine ggM_28 X E hP inX9_loop_X9 lkX9_loop_7 dX9_loop_151 ?_
    refine gpM_5 X E hP hS inX9_loop_X9 lkX9_loop_5 dX9_loop_154 (fun H locs hP hS => ?_)
    refine lv_aload_n hx hb dX9_loop_157 rfl (lv_at hl 0 rfl) ?_
    refine lv_bipush (v := -6) hx hb dX9_loop_158 (by decide) ?_
    obtain ⟨u24, h25, hf⟩ := g_bind hf
    refine g_vi (rest := []) X E hP hS (tcX9_no l G _ _ h25) (g_cwV X gX9_loop_X9_no rfl hdX9_no ⟨Nat.le_of_ble_eq_true rfl, Nat.le_of_ble_eq_true rfl⟩) (rcM_model E hP) rfl hl.1 rfl (Nat.le_of_ble_eq_true rfl) dX9_loop_160 ⟨Nat.le_refl _, Nat.le_refl _⟩ (fun H locs hP hS => ?_)
    obtain rfl := g_some hf
    exact g_ri X E hP hS dX9_loop_163
  · have hf := g_iff hf c21
    refine lv_iload_n hx hb dX9_loop_138 rfl (lv_at hl 1 rfl) ?_
    obtain rfl := g_some hf
    exact g_ri X E hP hS dX9_loop_139
def fX9_loop (S : GS) (a1 : Int32) : Option (Int32 × GS) :=
  (fX9_wanted S a1).bind fun u1 =>
  if u1 = 0 then
    (fX9_all_29 S (0 : Int32)).bind fun u4 =>
    if a1 < 0 ∨ 8 ≤ (a1).toNatClampNeg then none else
    gLet (gU1 (gU1 (gU1 u4 24 ((160 : Int32) * a1)) 25 (0 : Int32)) 26 ((gU1 (gU1 u4 24 ((160 : Int32) * a1)) 25 (0 : Int32)).2.2.1 17 (a1).toNatClampNeg)) fun T7 =>
    (fX9_item (gU1 T7 5 (-1 : Int32))).bind fun u9 =>
    (fX9_loop_62 gFuel u9.2 (1 : Int32) u9.1).bind fun u19 =>
    fX9_loop_L133 u19.2.2 u19.1 u19.2.1
  else
    (fX9_no S u1).bind fun u26 =>
    some (u26.1, u26.2)
set_option maxHeartbeats 4000000 in
set_option maxRecDepth 100000 in
theorem tcX9_loop (l : Launch) (G : GP) (S : GS) (a1 : Int32) {R : (Int32 × GS)} (hf : fX9_loop S a1 = some R) : CI l yX9_loop wsX9_loop 4 88 [.ref (ga G 63), .int a1] WM G S R.1 R.2 := by
  refine g_met RX9 (cc := cX9_loop) (nL := 5) (ret := (some .int)) (by decide) rfl rfl (Nat.le_of_ble_eq_true rfl) ?_
  intro p e s m below meth c ls X E hP hS hl
  have hl : lv_has ls 5 [(0, .ref (ga G 63)), (1, .int a1)] := hl
  obtain ⟨hx, hb, -, -, hown, hts, -⟩ := id X
  rw [fX9_loop] at hf
  refine lv_aload_n hx hb dX9_loop_0 rfl (lv_at hl 0 rfl) ?_
  refine lv_iload_n hx hb dX9_loop_1 rfl (lv_at hl 1 rfl) ?_
  obtain ⟨u1, h2, hf⟩ := g_bind hf
  refine g_vi (rest := []) X E hP hS (tcX9_wanted l G _ _ h2) (g_cwV X gX9_loop_X9_wanted rfl hdX9_wanted ⟨Nat.le_of_ble_eq_true rfl, Nat.le_of_ble_eq_true rfl⟩) (rcM_model E hP) rfl hl.1 rfl (Nat.le_of_ble_eq_true rfl) dX9_loop_2 ⟨Nat.le_refl _, Nat.le_refl _⟩ (fun H locs hP hS => ?_)
  refine lv_istore_n (lv' := [(2, .int u1), (0, .ref (ga G 63)), (1, .int a1)]) hx hb dX9_loop_5 rfl hl (by decide) rfl (fun ls hl => ?_)
  refine lv_iload_n hx hb dX9_loop_6 rfl (lv_at hl 0 rfl) ?_
  refine lv_if_eq (tgt := 16) hx hb dX9_loop_7 (by decide) (fun c3 => ?_) (fun c3 => ?_)
  · have hf := g_ift hf c3
    refine lv_aload_n hx hb dX9_loop_16 rfl (lv_at hl 1 rfl) ?_
    refine lv_aload_n hx hb dX9_loop_17 rfl (lv_at hl 1 rfl) ?_
    refine ggM_29 X E hP inX9_loop_X9 lkX9_loop_0 dX9_loop_18 ?_
    refine lv_iconst (v := 0) hx hb dX9_loop_21 (by decide) ?_
    obtain ⟨u4, h5, hf⟩ := g_bind hf
    refine g_vv (rest := []) X E hP hS (tcX9_all_29 l G _ _ h5) (g_cwV X gX9_loop_X9_all rfl hdX9_all ⟨Nat.le_of_ble_eq_true rfl, Nat.le_of_ble_eq_true rfl⟩) (rcM_model E hP) rfl hl.1 rfl (Nat.le_of_ble_eq_true rfl) dX9_loop_22 ⟨Nat.le_refl _, Nat.le_refl _⟩ (fun H locs hP hS => ?_)
    refine lv_aload_n hx hb dX9_loop_25 rfl (lv_at hl 1 rfl) ?_
    refine lv_sipush (v := 160) hx hb dX9_loop_26 (by decide) ?_
    refine lv_iload_n hx hb dX9_loop_29 rfl (lv_at hl 2 rfl) ?_
    refine lv_imul hx hb dX9_loop_30 ?_
    refine gpM_24 X E hP hS inX9_loop_X9 lkX9_loop_1 dX9_loop_31 (fun H locs hP hS => ?_)
    refine lv_aload_n hx hb dX9_loop_34 rfl (lv_at hl 1 rfl) ?_
    refine lv_iconst (v := 0) hx hb dX9_loop_35 (by decide) ?_
    refine gpM_25 X E hP hS inX9_loop_X9 lkX9_loop_2 dX9_loop_36 (fun H locs hP hS => ?_)
    refine lv_aload_n hx hb dX9_loop_39 rfl (lv_at hl 1 rfl) ?_
    refine lv_aload_n hx hb dX9_loop_40 rfl (lv_at hl 1 rfl) ?_
    refine ggM_17 X E hP inX9_loop_X9 lkX9_loop_3 dX9_loop_41 ?_
    refine lv_iload_n hx hb dX9_loop_44 rfl (lv_at hl 2 rfl) ?_
    obtain ⟨b6, hf⟩ := g_if hf
    refine giM_17 X E hP b6 dX9_loop_45 ?_
    refine gpM_26 X E hP hS inX9_loop_X9 lkX9_loop_4 dX9_loop_46 (fun H locs hP hS => ?_)
    obtain ⟨T7, e8, hf⟩ := g_let hf
    rw [← e8] at hP
    refine lv_aload_n hx hb dX9_loop_49 rfl (lv_at hl 1 rfl) ?_
    refine lv_iconst (v := -1) hx hb dX9_loop_50 (by decide) ?_
    refine gpM_5 X E hP hS inX9_loop_X9 lkX9_loop_5 dX9_loop_51 (fun H locs hP hS => ?_)
    refine lv_iconst (v := 1) hx hb dX9_loop_54 (by decide) ?_
    refine lv_istore_n (lv' := [(3, .int (1 : Int32)), (2, .int u1), (0, .ref (ga G 63)), (1, .int a1)]) hx hb dX9_loop_55 rfl hl (by decide) rfl (fun ls hl => ?_)
    refine lv_aload_n hx hb dX9_loop_56 rfl (lv_at hl 2 rfl) ?_
    obtain ⟨u9, h10, hf⟩ := g_bind hf
    refine g_vi (rest := []) X E hP hS (tcX9_item l G _  h10) (g_cwV X gX9_loop_X9_item rfl hdX9_item ⟨Nat.le_of_ble_eq_true rfl, Nat.le_of_ble_eq_true rfl⟩) (rcM_model E hP) rfl hl.1 rfl (Nat.le_of_ble_eq_true rfl) dX9_loop_57 ⟨Nat.le_refl _, Nat.le_refl _⟩ (fun H locs hP hS => ?_)
    refine lv_istore (lv' := [(4, .int u9.1), (3, .int (1 : Int32)), (2, .int u1), (0, .ref (ga G 63)), (1, .int a1)]) hx hb dX9_loop_60 hl (by decide) rfl (fun ls hl => ?_)
    obtain ⟨u19, h20, hf⟩ := g_bind hf
    refine bX9_loop_62 X E gFuel _ _ _ u19 _ _ _ h20 hP hS (lv_sub hl [3, 1, 0] rfl) (fun H locs ls hP hS hl => ?_)
    have hl : lv_has ls 5 [(0, .ref (ga G 63)), (3, .int u19.1), (4, .int u19.2.1)] := hl
    have hP : va_P (gD G) vwCl (WM G u19.2.2 ++ gF G) H := hP
    exact bX9_loop_L133 X E _ _ _ _ _ _ _ hf hP hS (lv_sub hl [0, 1, 2] rfl)
  · have hf := g_iff hf c3
    refine lv_aload_n hx hb dX9_loop_10 rfl (lv_at hl 1 rfl) ?_
    refine lv_iload_n hx hb dX9_loop_11 rfl (lv_at hl 0 rfl) ?_
    obtain ⟨u26, h27, hf⟩ := g_bind hf
    refine g_vi (rest := []) X E hP hS (tcX9_no l G _ _ h27) (g_cwV X gX9_loop_X9_no rfl hdX9_no ⟨Nat.le_of_ble_eq_true rfl, Nat.le_of_ble_eq_true rfl⟩) (rcM_model E hP) rfl hl.1 rfl (Nat.le_of_ble_eq_true rfl) dX9_loop_12 ⟨Nat.le_refl _, Nat.le_refl _⟩ (fun H locs hP hS => ?_)
    obtain rfl := g_some hf
    exact g_ri X E hP hS dX9_loop_15
theorem lkX9_fault_0 : Cond.fieldLink RX9 19 RX9 "fault" "I" ∈ wsX9_fault := by decide +kernel
theorem inX9_fault_X9 : ∀ w ∈ wsX90, w ∈ wsX9_fault := by decide +kernel
def fX9_fault (S : GS)  : Option Int32 :=
  some (S.1 5)
set_option maxHeartbeats 4000000 in
set_option maxRecDepth 100000 in
theorem tcX9_fault (l : Launch) (G : GP) (S : GS)  {R : Int32} (hf : fX9_fault S  = some R) : CI l yX9_fault wsX9_fault 0 0 [.ref (ga G 63)] WM G S R S := by
  refine g_met RX9 (cc := cX9_fault) (nL := 1) (ret := (some .int)) (by decide) rfl rfl (Nat.le_of_ble_eq_true rfl) ?_
  intro p e s m below meth c ls X E hP hS hl
  have hl : lv_has ls 1 [(0, .ref (ga G 63))] := hl
  obtain ⟨hx, hb, -, -, hown, hts, -⟩ := id X
  rw [fX9_fault] at hf
  refine lv_aload_n hx hb dX9_fault_0 rfl (lv_at hl 0 rfl) ?_
  refine ggM_5 X E hP inX9_fault_X9 lkX9_fault_0 dX9_fault_1 ?_
  obtain rfl := g_some hf
  exact g_ri X E hP hS dX9_fault_4
def fX9_rises_5 : Nat → GS → Int32 → Int32 → Int32 → Option Int32
  | 0, _, _, _, _ => none
  | fu + 1, S, v2, v3, v4 =>
    if v2 ≤ v4 then
      some v3
    else
      (fX9_rise S v4).bind fun u2 =>
      fX9_rises_5 fu S v2 (v3 + u2) (v4 + 1)
set_option maxHeartbeats 4000000 in
set_option maxRecDepth 100000 in
theorem bX9_rises_5 {p : Program} {l : Launch} {e : Env} {s : State} {m : MethodId} {args : Array Value} {below : List Frame} {meth : Method} {c : Code} {Q : State → Prop} {G : GP} (X : GX p s m meth c args cX9_rises 5 (some .int) wsX9_rises RX9) (E : gE WM G s)  : ∀ (fu : Nat) (S : GS) (v2 : Int32) (v3 : Int32) (v4 : Int32) (R : Int32) (H : Heap) (locs : List Loc) (ls : Array Slot) (_ : fX9_rises_5 fu S v2 v3 v4 = some R) (_ : va_P (gD G) vwCl (WM G S ++ gF G) H) (_ : va_S (gA G) s.heap H locs) (_ : lv_has ls 5 [(0, .ref (ga G 63)), (2, .int v2), (3, .int v3), (4, .int v4)]) (_ : ∀ (H : Heap) (locs : List Loc) (ls : Array Slot), va_P (gD G) vwCl (WM G S ++ gF G) H → va_S (gA G) s.heap H locs → lv_has ls 5 [(3, .int R)] → W p l e (gR 3 64) s m args below meth c H locs 0 0 Q (F0 m 26 ls [])), W p l e (gR 3 64) s m args below meth c H locs 0 0 Q (F0 m 5 ls []) := by
  obtain ⟨hx, hb, -, -, hown, hts, -⟩ := id X
  intro fu
  induction fu with
  | zero =>
    intro S v2 v3 v4 R H locs ls hf
    cases (show (none : Option Int32) = some R from hf)
  | succ fu ih =>
    intro S v2 v3 v4 R H locs ls hf hP hS hl kk
    rw [fX9_rises_5] at hf
    refine lv_iload hx hb dX9_rises_5 (lv_at hl 3 rfl) ?_
    refine lv_iload_n hx hb dX9_rises_7 rfl (lv_at hl 1 rfl) ?_
    refine lv_icmp_ge (tgt := 26) hx hb dX9_rises_8 (by decide) (fun c1 => ?_) (fun c1 => ?_)
    · have hf := g_ift hf c1
      obtain rfl := g_some hf
      exact kk _ _ _ hP hS (lv_sub hl [2] rfl)
    · have hf := g_iff hf c1
      refine lv_iload_n hx hb dX9_rises_11 rfl (lv_at hl 2 rfl) ?_
      refine lv_aload_n hx hb dX9_rises_12 rfl (lv_at hl 0 rfl) ?_
      refine lv_iload hx hb dX9_rises_13 (lv_at hl 3 rfl) ?_
      obtain ⟨u2, h3, hf⟩ := g_bind hf
      refine g_vi (rest := [.int v3]) X E hP hS (tcX9_rise l G _ _ h3) (g_cwV X gX9_rises_X9_rise rfl hdX9_rise ⟨Nat.le_of_ble_eq_true rfl, Nat.le_of_ble_eq_true rfl⟩) (rcM_model E hP) rfl hl.1 rfl (Nat.le_of_ble_eq_true rfl) dX9_rises_15 ⟨Nat.le_refl _, Nat.le_refl _⟩ (fun H locs hP hS => ?_)
      refine lv_iadd hx hb dX9_rises_18 ?_
      refine lv_istore_n (lv' := [(3, .int (v3 + u2)), (0, .ref (ga G 63)), (2, .int v2), (4, .int v4)]) hx hb dX9_rises_19 rfl hl (by decide) rfl (fun ls hl => ?_)
      refine lv_iinc (v := (v4 + 1)) (lv' := [(4, .int (v4 + 1)), (3, .int (v3 + u2)), (0, .ref (ga G 63)), (2, .int v2)]) hx hb dX9_rises_20 hl (k := 3) rfl rfl (by decide) rfl (fun ls hl => ?_)
      refine lv_goto (tgt := 5) hx hb dX9_rises_23 (by decide) ?_
      exact ih _ _ _ _ _ _ _ _ hf hP hS (lv_sub hl [2, 3, 1, 0] rfl) kk
def fX9_rises (S : GS) (a1 : Int32) (a2 : Int32) : Option Int32 :=
  (fX9_rises_5 gFuel S a2 (0 : Int32) a1).bind fun u4 =>
  some u4
set_option maxHeartbeats 4000000 in
set_option maxRecDepth 100000 in
theorem tcX9_rises (l : Launch) (G : GP) (S : GS) (a1 : Int32) (a2 : Int32) {R : Int32} (hf : fX9_rises S a1 a2 = some R) : CI l yX9_rises wsX9_rises 3 64 [.ref (ga G 63), .int a1, .int a2] WM G S R S := by
  refine g_met RX9 (cc := cX9_rises) (nL := 5) (ret := (some .int)) (by decide) rfl rfl (Nat.le_of_ble_eq_true rfl) ?_
  intro p e s m below meth c ls X E hP hS hl
  have hl : lv_has ls 5 [(0, .ref (ga G 63)), (1, .int a1), (2, .int a2)] := hl
  obtain ⟨hx, hb, -, -, hown, hts, -⟩ := id X
  rw [fX9_rises] at hf
  refine lv_iconst (v := 0) hx hb dX9_rises_0 (by decide) ?_
  refine lv_istore_n (lv' := [(3, .int (0 : Int32)), (0, .ref (ga G 63)), (1, .int a1), (2, .int a2)]) hx hb dX9_rises_1 rfl hl (by decide) rfl (fun ls hl => ?_)
  refine lv_iload_n hx hb dX9_rises_2 rfl (lv_at hl 2 rfl) ?_
  refine lv_istore (lv' := [(4, .int a1), (3, .int (0 : Int32)), (0, .ref (ga G 63)), (1, .int a1), (2, .int a2)]) hx hb dX9_rises_3 hl (by decide) rfl (fun ls hl => ?_)
  obtain ⟨u4, h5, hf⟩ := g_bind hf
  refine bX9_rises_5 X E gFuel _ _ _ _ u4 _ _ _ h5 hP hS (lv_sub hl [2, 4, 1, 0] rfl) (fun H locs ls hP hS hl => ?_)
  have hl : lv_has ls 5 [(3, .int u4)] := hl
  refine lv_iload_n hx hb dX9_rises_26 rfl (lv_at hl 0 rfl) ?_
  obtain rfl := g_some hf
  exact g_ri X E hP hS dX9_rises_27
theorem lkX9_height_0 : Cond.fieldLink RX9 91 RX9 "many" "I" ∈ wsX9_height := by decide +kernel
theorem lkX9_height_1 : Cond.fieldLink RX9 134 RX9 "start" "I" ∈ wsX9_height := by decide +kernel
theorem inX9_height_X9 : ∀ w ∈ wsX90, w ∈ wsX9_height := by decide +kernel
def fX9_height (S : GS) (a1 : Int32) : Option (Int32 × GS) :=
  if a1 < 0 then
    (fX9_noFar S (-5 : Int32)).bind fun u2 =>
    some (u2.1, u2.2)
  else
    if (S.1 0) < a1 then
      (fX9_noFar S (-5 : Int32)).bind fun u5 =>
      some (u5.1, u5.2)
    else
      (fX9_rises S (0 : Int32) a1).bind fun u7 =>
      some (((S.1 1) + u7), S)
set_option maxHeartbeats 4000000 in
set_option maxRecDepth 100000 in
theorem tcX9_height (l : Launch) (G : GP) (S : GS) (a1 : Int32) {R : (Int32 × GS)} (hf : fX9_height S a1 = some R) : CI l yX9_height wsX9_height 4 88 [.ref (ga G 63), .int a1] WM G S R.1 R.2 := by
  refine g_met RX9 (cc := cX9_height) (nL := 2) (ret := (some .int)) (by decide) rfl rfl (Nat.le_of_ble_eq_true rfl) ?_
  intro p e s m below meth c ls X E hP hS hl
  have hl : lv_has ls 2 [(0, .ref (ga G 63)), (1, .int a1)] := hl
  obtain ⟨hx, hb, -, -, hown, hts, -⟩ := id X
  rw [fX9_height] at hf
  refine lv_iload_n hx hb dX9_height_0 rfl (lv_at hl 1 rfl) ?_
  refine lv_if_lt (tgt := 26) hx hb dX9_height_1 (by decide) (fun c1 => ?_) (fun c1 => ?_)
  · have hf := g_ift hf c1
    refine lv_aload_n hx hb dX9_height_26 rfl (lv_at hl 0 rfl) ?_
    refine lv_bipush (v := -5) hx hb dX9_height_27 (by decide) ?_
    obtain ⟨u2, h3, hf⟩ := g_bind hf
    refine g_vi (rest := []) X E hP hS (tcX9_noFar l G _ _ h3) (g_cwV X gX9_height_X9_noFar rfl hdX9_noFar ⟨Nat.le_of_ble_eq_true rfl, Nat.le_of_ble_eq_true rfl⟩) (rcM_model E hP) rfl hl.1 rfl (Nat.le_of_ble_eq_true rfl) dX9_height_29 ⟨Nat.le_refl _, Nat.le_refl _⟩ (fun H locs hP hS => ?_)
    obtain rfl := g_some hf
    exact g_ri X E hP hS dX9_height_32
  · have hf := g_iff hf c1
    refine lv_iload_n hx hb dX9_height_4 rfl (lv_at hl 1 rfl) ?_
    refine lv_aload_n hx hb dX9_height_5 rfl (lv_at hl 0 rfl) ?_
    refine ggM_0 X E hP inX9_height_X9 lkX9_height_0 dX9_height_6 ?_
    refine lv_icmp_gt (tgt := 26) hx hb dX9_height_9 (by decide) (fun c4 => ?_) (fun c4 => ?_)
    · have hf := g_ift hf c4
      refine lv_aload_n hx hb dX9_height_26 rfl (lv_at hl 0 rfl) ?_
      refine lv_bipush (v := -5) hx hb dX9_height_27 (by decide) ?_
      obtain ⟨u5, h6, hf⟩ := g_bind hf
      refine g_vi (rest := []) X E hP hS (tcX9_noFar l G _ _ h6) (g_cwV X gX9_height_X9_noFar rfl hdX9_noFar ⟨Nat.le_of_ble_eq_true rfl, Nat.le_of_ble_eq_true rfl⟩) (rcM_model E hP) rfl hl.1 rfl (Nat.le_of_ble_eq_true rfl) dX9_height_29 ⟨Nat.le_refl _, Nat.le_refl _⟩ (fun H locs hP hS => ?_)
      obtain rfl := g_some hf
      exact g_ri X E hP hS dX9_height_32
    · have hf := g_iff hf c4
      refine lv_aload_n hx hb dX9_height_12 rfl (lv_at hl 0 rfl) ?_
      refine ggM_1 X E hP inX9_height_X9 lkX9_height_1 dX9_height_13 ?_
      refine lv_aload_n hx hb dX9_height_16 rfl (lv_at hl 0 rfl) ?_
      refine lv_iconst (v := 0) hx hb dX9_height_17 (by decide) ?_
      refine lv_iload_n hx hb dX9_height_18 rfl (lv_at hl 1 rfl) ?_
      obtain ⟨u7, h8, hf⟩ := g_bind hf
      refine g_vi (rest := [.int (S.1 1)]) X E hP hS (tcX9_rises l G _ _ _ h8) (g_cwV X gX9_height_X9_rises rfl hdX9_rises ⟨Nat.le_of_ble_eq_true rfl, Nat.le_of_ble_eq_true rfl⟩) (rcM_model E hP) rfl hl.1 rfl (Nat.le_of_ble_eq_true rfl) dX9_height_19 ⟨Nat.le_refl _, Nat.le_refl _⟩ (fun H locs hP hS => ?_)
      refine lv_iadd hx hb dX9_height_22 ?_
      refine lv_goto (tgt := 32) hx hb dX9_height_23 (by decide) ?_
      obtain rfl := g_some hf
      exact g_ri X E hP hS dX9_height_32
theorem lkX9_offAll_0 : Cond.fieldLink RX9 91 RX9 "many" "I" ∈ wsX9_offAll := by decide +kernel
theorem inX9_offAll_X9 : ∀ w ∈ wsX90, w ∈ wsX9_offAll := by decide +kernel
def fX9_offAll (S : GS)  : Option Int32 :=
  (fX9_rises S (0 : Int32) (S.1 0)).bind fun u1 =>
  some u1
set_option maxHeartbeats 4000000 in
set_option maxRecDepth 100000 in
theorem tcX9_offAll (l : Launch) (G : GP) (S : GS)  {R : Int32} (hf : fX9_offAll S  = some R) : CI l yX9_offAll wsX9_offAll 4 88 [.ref (ga G 63)] WM G S R S := by
  refine g_met RX9 (cc := cX9_offAll) (nL := 1) (ret := (some .int)) (by decide) rfl rfl (Nat.le_of_ble_eq_true rfl) ?_
  intro p e s m below meth c ls X E hP hS hl
  have hl : lv_has ls 1 [(0, .ref (ga G 63))] := hl
  obtain ⟨hx, hb, -, -, hown, hts, -⟩ := id X
  rw [fX9_offAll] at hf
  refine lv_aload_n hx hb dX9_offAll_0 rfl (lv_at hl 0 rfl) ?_
  refine lv_iconst (v := 0) hx hb dX9_offAll_1 (by decide) ?_
  refine lv_aload_n hx hb dX9_offAll_2 rfl (lv_at hl 0 rfl) ?_
  refine ggM_0 X E hP inX9_offAll_X9 lkX9_offAll_0 dX9_offAll_3 ?_
  obtain ⟨u1, h2, hf⟩ := g_bind hf
  refine g_vi (rest := []) X E hP hS (tcX9_rises l G _ _ _ h2) (g_cwV X gX9_offAll_X9_rises rfl hdX9_rises ⟨Nat.le_of_ble_eq_true rfl, Nat.le_of_ble_eq_true rfl⟩) (rcM_model E hP) rfl hl.1 rfl (Nat.le_of_ble_eq_true rfl) dX9_offAll_6 ⟨Nat.le_refl _, Nat.le_refl _⟩ (fun H locs hP hS => ?_)
  obtain rfl := g_some hf
  exact g_ri X E hP hS dX9_offAll_9
theorem lkX9_mayBe_0 : Cond.fieldLink RX9 91 RX9 "many" "I" ∈ wsX9_mayBe := by decide +kernel
theorem lkX9_mayBe_1 : Cond.fieldLink RX9 13 RX9 "fine" "I" ∈ wsX9_mayBe := by decide +kernel
theorem inX9_mayBe_X9 : ∀ w ∈ wsX90, w ∈ wsX9_mayBe := by decide +kernel
def fX9_mayBe_2 : Nat → GS → Int32 → Option Int32
  | 0, _, _ => none
  | fu + 1, S, v1 =>
    if (S.1 0) < ((v1 + (1 : Int32)) * (v1 + (1 : Int32))) then
      some v1
    else
      fX9_mayBe_2 fu S (v1 + 1)
set_option maxHeartbeats 4000000 in
set_option maxRecDepth 100000 in
theorem bX9_mayBe_2 {p : Program} {l : Launch} {e : Env} {s : State} {m : MethodId} {args : Array Value} {below : List Frame} {meth : Method} {c : Code} {Q : State → Prop} {G : GP} (X : GX p s m meth c args cX9_mayBe 2 (some .int) wsX9_mayBe RX9) (E : gE WM G s)  : ∀ (fu : Nat) (S : GS) (v1 : Int32) (R : Int32) (H : Heap) (locs : List Loc) (ls : Array Slot) (_ : fX9_mayBe_2 fu S v1 = some R) (_ : va_P (gD G) vwCl (WM G S ++ gF G) H) (_ : va_S (gA G) s.heap H locs) (_ : lv_has ls 2 [(0, .ref (ga G 63)), (1, .int v1)]) (_ : ∀ (H : Heap) (locs : List Loc) (ls : Array Slot), va_P (gD G) vwCl (WM G S ++ gF G) H → va_S (gA G) s.heap H locs → lv_has ls 2 [(0, .ref (ga G 63)), (1, .int R)] → W p l e (gR 0 0) s m args below meth c H locs 0 0 Q (F0 m 22 ls [])), W p l e (gR 0 0) s m args below meth c H locs 0 0 Q (F0 m 2 ls []) := by
  obtain ⟨hx, hb, -, -, hown, hts, -⟩ := id X
  intro fu
  induction fu with
  | zero =>
    intro S v1 R H locs ls hf
    cases (show (none : Option Int32) = some R from hf)
  | succ fu ih =>
    intro S v1 R H locs ls hf hP hS hl kk
    rw [fX9_mayBe_2] at hf
    refine lv_iload_n hx hb dX9_mayBe_2 rfl (lv_at hl 1 rfl) ?_
    refine lv_iconst (v := 1) hx hb dX9_mayBe_3 (by decide) ?_
    refine lv_iadd hx hb dX9_mayBe_4 ?_
    refine lv_iload_n hx hb dX9_mayBe_5 rfl (lv_at hl 1 rfl) ?_
    refine lv_iconst (v := 1) hx hb dX9_mayBe_6 (by decide) ?_
    refine lv_iadd hx hb dX9_mayBe_7 ?_
    refine lv_imul hx hb dX9_mayBe_8 ?_
    refine lv_aload_n hx hb dX9_mayBe_9 rfl (lv_at hl 0 rfl) ?_
    refine ggM_0 X E hP inX9_mayBe_X9 lkX9_mayBe_0 dX9_mayBe_10 ?_
    refine lv_icmp_gt (tgt := 22) hx hb dX9_mayBe_13 (by decide) (fun c1 => ?_) (fun c1 => ?_)
    · have hf := g_ift hf c1
      obtain rfl := g_some hf
      exact kk _ _ _ hP hS (lv_sub hl [0, 1] rfl)
    · have hf := g_iff hf c1
      refine lv_iinc (v := (v1 + 1)) (lv' := [(1, .int (v1 + 1)), (0, .ref (ga G 63))]) hx hb dX9_mayBe_16 hl (k := 1) rfl rfl (by decide) rfl (fun ls hl => ?_)
      refine lv_goto (tgt := 2) hx hb dX9_mayBe_19 (by decide) ?_
      exact ih _ _ _ _ _ _ hf hP hS (lv_sub hl [1, 0] rfl) kk
def fX9_mayBe (S : GS)  : Option Int32 :=
  (fX9_mayBe_2 gFuel S (0 : Int32)).bind fun u2 =>
  some ((S.1 3) * u2)
set_option maxHeartbeats 4000000 in
set_option maxRecDepth 100000 in
theorem tcX9_mayBe (l : Launch) (G : GP) (S : GS)  {R : Int32} (hf : fX9_mayBe S  = some R) : CI l yX9_mayBe wsX9_mayBe 0 0 [.ref (ga G 63)] WM G S R S := by
  refine g_met RX9 (cc := cX9_mayBe) (nL := 2) (ret := (some .int)) (by decide) rfl rfl (Nat.le_of_ble_eq_true rfl) ?_
  intro p e s m below meth c ls X E hP hS hl
  have hl : lv_has ls 2 [(0, .ref (ga G 63))] := hl
  obtain ⟨hx, hb, -, -, hown, hts, -⟩ := id X
  rw [fX9_mayBe] at hf
  refine lv_iconst (v := 0) hx hb dX9_mayBe_0 (by decide) ?_
  refine lv_istore_n (lv' := [(1, .int (0 : Int32)), (0, .ref (ga G 63))]) hx hb dX9_mayBe_1 rfl hl (by decide) rfl (fun ls hl => ?_)
  obtain ⟨u2, h3, hf⟩ := g_bind hf
  refine bX9_mayBe_2 X E gFuel _ _ u2 _ _ _ h3 hP hS (lv_sub hl [1, 0] rfl) (fun H locs ls hP hS hl => ?_)
  have hl : lv_has ls 2 [(0, .ref (ga G 63)), (1, .int u2)] := hl
  refine lv_aload_n hx hb dX9_mayBe_22 rfl (lv_at hl 0 rfl) ?_
  refine ggM_3 X E hP inX9_mayBe_X9 lkX9_mayBe_1 dX9_mayBe_23 ?_
  refine lv_iload_n hx hb dX9_mayBe_26 rfl (lv_at hl 1 rfl) ?_
  refine lv_imul hx hb dX9_mayBe_27 ?_
  obtain rfl := g_some hf
  exact g_ri X E hP hS dX9_mayBe_28
def fX9_abs (S : GS) (a1 : Int32) : Option Int32 :=
  if 0 ≤ a1 then
    some a1
  else
    some (-a1)
set_option maxHeartbeats 4000000 in
set_option maxRecDepth 100000 in
theorem tcX9_abs (l : Launch) (G : GP) (S : GS) (a1 : Int32) {R : Int32} (hf : fX9_abs S a1 = some R) : CI l yX9_abs wsX9_abs 0 0 [.ref (ga G 63), .int a1] WM G S R S := by
  refine g_met RX9 (cc := cX9_abs) (nL := 2) (ret := (some .int)) (by decide) rfl rfl (Nat.le_of_ble_eq_true rfl) ?_
  intro p e s m below meth c ls X E hP hS hl
  have hl : lv_has ls 2 [(0, .ref (ga G 63)), (1, .int a1)] := hl
  obtain ⟨hx, hb, -, -, hown, hts, -⟩ := id X
  rw [fX9_abs] at hf
  refine lv_iload_n hx hb dX9_abs_0 rfl (lv_at hl 1 rfl) ?_
  refine lv_if_ge (tgt := 9) hx hb dX9_abs_1 (by decide) (fun c1 => ?_) (fun c1 => ?_)
  · have hf := g_ift hf c1
    refine lv_iload_n hx hb dX9_abs_9 rfl (lv_at hl 1 rfl) ?_
    obtain rfl := g_some hf
    exact g_ri X E hP hS dX9_abs_10
  · have hf := g_iff hf c1
    refine lv_iload_n hx hb dX9_abs_4 rfl (lv_at hl 1 rfl) ?_
    refine lv_ineg hx hb dX9_abs_5 ?_
    refine lv_goto (tgt := 10) hx hb dX9_abs_6 (by decide) ?_
    obtain rfl := g_some hf
    exact g_ri X E hP hS dX9_abs_10
theorem lkX9_off_0 : Cond.fieldLink RX9 91 RX9 "many" "I" ∈ wsX9_off := by decide +kernel
theorem inX9_off_X9 : ∀ w ∈ wsX90, w ∈ wsX9_off := by decide +kernel
def fX9_off_39 : Nat → GS → Int32 → Int32 → Option Int32
  | 0, _, _, _ => none
  | fu + 1, S, v2, v3 =>
    if (S.1 0) ≤ v3 then
      some v2
    else
      (fX9_booked S v3).bind fun u6 =>
      fX9_off_39 fu S (v2 + u6) (v3 + 1)
set_option maxHeartbeats 4000000 in
set_option maxRecDepth 100000 in
theorem bX9_off_39 {p : Program} {l : Launch} {e : Env} {s : State} {m : MethodId} {args : Array Value} {below : List Frame} {meth : Method} {c : Code} {Q : State → Prop} {G : GP} (X : GX p s m meth c args cX9_off 4 (some .int) wsX9_off RX9) (E : gE WM G s)  : ∀ (fu : Nat) (S : GS) (v2 : Int32) (v3 : Int32) (R : Int32) (H : Heap) (locs : List Loc) (ls : Array Slot) (_ : fX9_off_39 fu S v2 v3 = some R) (_ : va_P (gD G) vwCl (WM G S ++ gF G) H) (_ : va_S (gA G) s.heap H locs) (_ : lv_has ls 4 [(0, .ref (ga G 63)), (2, .int v2), (3, .int v3)]) (_ : ∀ (H : Heap) (locs : List Loc) (ls : Array Slot), va_P (gD G) vwCl (WM G S ++ gF G) H → va_S (gA G) s.heap H locs → lv_has ls 4 [(2, .int R)] → W p l e (gR 5 108) s m args below meth c H locs 0 0 Q (F0 m 61 ls [])), W p l e (gR 5 108) s m args below meth c H locs 0 0 Q (F0 m 39 ls []) := by
  obtain ⟨hx, hb, -, -, hown, hts, -⟩ := id X
  intro fu
  induction fu with
  | zero =>
    intro S v2 v3 R H locs ls hf
    cases (show (none : Option Int32) = some R from hf)
  | succ fu ih =>
    intro S v2 v3 R H locs ls hf hP hS hl kk
    rw [fX9_off_39] at hf
    refine lv_iload_n hx hb dX9_off_39 rfl (lv_at hl 2 rfl) ?_
    refine lv_aload_n hx hb dX9_off_40 rfl (lv_at hl 0 rfl) ?_
    refine ggM_0 X E hP inX9_off_X9 lkX9_off_0 dX9_off_41 ?_
    refine lv_icmp_ge (tgt := 61) hx hb dX9_off_44 (by decide) (fun c5 => ?_) (fun c5 => ?_)
    · have hf := g_ift hf c5
      obtain rfl := g_some hf
      exact kk _ _ _ hP hS (lv_sub hl [1] rfl)
    · have hf := g_iff hf c5
      refine lv_iload_n hx hb dX9_off_47 rfl (lv_at hl 1 rfl) ?_
      refine lv_aload_n hx hb dX9_off_48 rfl (lv_at hl 0 rfl) ?_
      refine lv_iload_n hx hb dX9_off_49 rfl (lv_at hl 2 rfl) ?_
      obtain ⟨u6, h7, hf⟩ := g_bind hf
      refine g_vi (rest := [.int v2]) X E hP hS (tcX9_booked l G _ _ h7) (g_cwV X gX9_off_X9_booked rfl hdX9_booked ⟨Nat.le_of_ble_eq_true rfl, Nat.le_of_ble_eq_true rfl⟩) (rcM_model E hP) rfl hl.1 rfl (Nat.le_of_ble_eq_true rfl) dX9_off_50 ⟨Nat.le_refl _, Nat.le_refl _⟩ (fun H locs hP hS => ?_)
      refine lv_iadd hx hb dX9_off_53 ?_
      refine lv_istore_n (lv' := [(2, .int (v2 + u6)), (0, .ref (ga G 63)), (3, .int v3)]) hx hb dX9_off_54 rfl hl (by decide) rfl (fun ls hl => ?_)
      refine lv_iinc (v := (v3 + 1)) (lv' := [(3, .int (v3 + 1)), (2, .int (v2 + u6)), (0, .ref (ga G 63))]) hx hb dX9_off_55 hl (k := 2) rfl rfl (by decide) rfl (fun ls hl => ?_)
      refine lv_goto (tgt := 39) hx hb dX9_off_58 (by decide) ?_
      exact ih _ _ _ _ _ _ _ hf hP hS (lv_sub hl [2, 1, 0] rfl) kk
def fX9_off (S : GS) (a1 : Int32) : Option (Int32 × GS) :=
  if a1 = (0 : Int32) then
    (fX9_offAll S).bind fun u2 =>
    some (u2, S)
  else if a1 = (1 : Int32) then
    (fX9_off_39 gFuel S (0 : Int32) (0 : Int32)).bind fun u8 =>
    some (u8, S)
  else if a1 = (2 : Int32) then
    (fX9_mayBe S).bind fun u11 =>
    some (u11, S)
  else if a1 = (3 : Int32) then
    (fX9_offAll S).bind fun u14 =>
    (fX9_abs S u14).bind fun u16 =>
    (fX9_mayBe S).bind fun u18 =>
    if u16 ≤ u18 then
      some ((0 : Int32), S)
    else
      some ((1 : Int32), S)
  else (fX9_noFar S (-5 : Int32)).bind fun u21 =>
  some (u21.1, u21.2)
set_option maxHeartbeats 4000000 in
set_option maxRecDepth 100000 in
theorem tcX9_off (l : Launch) (G : GP) (S : GS) (a1 : Int32) {R : (Int32 × GS)} (hf : fX9_off S a1 = some R) : CI l yX9_off wsX9_off 5 108 [.ref (ga G 63), .int a1] WM G S R.1 R.2 := by
  refine g_met RX9 (cc := cX9_off) (nL := 4) (ret := (some .int)) (by decide) rfl rfl (Nat.le_of_ble_eq_true rfl) ?_
  intro p e s m below meth c ls X E hP hS hl
  have hl : lv_has ls 4 [(0, .ref (ga G 63)), (1, .int a1)] := hl
  obtain ⟨hx, hb, -, -, hown, hts, -⟩ := id X
  rw [fX9_off] at hf
  refine lv_iconst (v := 0) hx hb dX9_off_0 (by decide) ?_
  refine lv_istore_n (lv' := [(2, .int (0 : Int32)), (0, .ref (ga G 63)), (1, .int a1)]) hx hb dX9_off_1 rfl hl (by decide) rfl (fun ls hl => ?_)
  refine lv_iload_n hx hb dX9_off_2 rfl (lv_at hl 2 rfl) ?_
  by_cases c1 : a1 = (0 : Int32)
  · have hf := g_ift hf c1
    refine g_tin (k := (0 : Int32)) (off := 29) (tgt := 32) hx hb dX9_off_3 c1 (by decide) ?_
    refine lv_aload_n hx hb dX9_off_32 rfl (lv_at hl 1 rfl) ?_
    obtain ⟨u2, h3, hf⟩ := g_bind hf
    refine g_vi (rest := []) X E hP hS (tcX9_offAll l G _  h3) (g_cwV X gX9_off_X9_offAll rfl hdX9_offAll ⟨Nat.le_of_ble_eq_true rfl, Nat.le_of_ble_eq_true rfl⟩) (rcM_model E hP) rfl hl.1 rfl (Nat.le_of_ble_eq_true rfl) dX9_off_33 ⟨Nat.le_refl _, Nat.le_refl _⟩ (fun H locs hP hS => ?_)
    obtain rfl := g_some hf
    exact g_ri X E hP hS dX9_off_36
  have hf := g_iff hf c1
  by_cases c4 : a1 = (1 : Int32)
  · have hf := g_ift hf c4
    refine g_tin (k := (1 : Int32)) (off := 34) (tgt := 37) hx hb dX9_off_3 c4 (by decide) ?_
    refine lv_iconst (v := 0) hx hb dX9_off_37 (by decide) ?_
    refine lv_istore_n (lv' := [(3, .int (0 : Int32)), (2, .int (0 : Int32)), (0, .ref (ga G 63)), (1, .int a1)]) hx hb dX9_off_38 rfl hl (by decide) rfl (fun ls hl => ?_)
    obtain ⟨u8, h9, hf⟩ := g_bind hf
    refine bX9_off_39 X E gFuel _ _ _ u8 _ _ _ h9 hP hS (lv_sub hl [2, 1, 0] rfl) (fun H locs ls hP hS hl => ?_)
    have hl : lv_has ls 4 [(2, .int u8)] := hl
    refine lv_iload_n hx hb dX9_off_61 rfl (lv_at hl 0 rfl) ?_
    obtain rfl := g_some hf
    exact g_ri X E hP hS dX9_off_62
  have hf := g_iff hf c4
  by_cases c10 : a1 = (2 : Int32)
  · have hf := g_ift hf c10
    refine g_tin (k := (2 : Int32)) (off := 60) (tgt := 63) hx hb dX9_off_3 c10 (by decide) ?_
    refine lv_aload_n hx hb dX9_off_63 rfl (lv_at hl 1 rfl) ?_
    obtain ⟨u11, h12, hf⟩ := g_bind hf
    refine g_vi (rest := []) X E hP hS (tcX9_mayBe l G _  h12) (g_cwV X gX9_off_X9_mayBe rfl hdX9_mayBe ⟨Nat.le_of_ble_eq_true rfl, Nat.le_of_ble_eq_true rfl⟩) (rcM_model E hP) rfl hl.1 rfl (Nat.le_of_ble_eq_true rfl) dX9_off_64 ⟨Nat.le_refl _, Nat.le_refl _⟩ (fun H locs hP hS => ?_)
    obtain rfl := g_some hf
    exact g_ri X E hP hS dX9_off_67
  have hf := g_iff hf c10
  by_cases c13 : a1 = (3 : Int32)
  · have hf := g_ift hf c13
    refine g_tin (k := (3 : Int32)) (off := 65) (tgt := 68) hx hb dX9_off_3 c13 (by decide) ?_
    refine lv_aload_n hx hb dX9_off_68 rfl (lv_at hl 1 rfl) ?_
    refine lv_aload_n hx hb dX9_off_69 rfl (lv_at hl 1 rfl) ?_
    obtain ⟨u14, h15, hf⟩ := g_bind hf
    refine g_vi (rest := [.ref (ga G 63)]) X E hP hS (tcX9_offAll l G _  h15) (g_cwV X gX9_off_X9_offAll rfl hdX9_offAll ⟨Nat.le_of_ble_eq_true rfl, Nat.le_of_ble_eq_true rfl⟩) (rcM_model E hP) rfl hl.1 rfl (Nat.le_of_ble_eq_true rfl) dX9_off_70 ⟨Nat.le_refl _, Nat.le_refl _⟩ (fun H locs hP hS => ?_)
    obtain ⟨u16, h17, hf⟩ := g_bind hf
    refine g_vi (rest := []) X E hP hS (tcX9_abs l G _ _ h17) (g_cwV X gX9_off_X9_abs rfl hdX9_abs ⟨Nat.le_of_ble_eq_true rfl, Nat.le_of_ble_eq_true rfl⟩) (rcM_model E hP) rfl hl.1 rfl (Nat.le_of_ble_eq_true rfl) dX9_off_73 ⟨Nat.le_refl _, Nat.le_refl _⟩ (fun H locs hP hS => ?_)
    refine lv_aload_n hx hb dX9_off_76 rfl (lv_at hl 1 rfl) ?_
    obtain ⟨u18, h19, hf⟩ := g_bind hf
    refine g_vi (rest := [.int u16]) X E hP hS (tcX9_mayBe l G _  h19) (g_cwV X gX9_off_X9_mayBe rfl hdX9_mayBe ⟨Nat.le_of_ble_eq_true rfl, Nat.le_of_ble_eq_true rfl⟩) (rcM_model E hP) rfl hl.1 rfl (Nat.le_of_ble_eq_true rfl) dX9_off_77 ⟨Nat.le_refl _, Nat.le_refl _⟩ (fun H locs hP hS => ?_)
    refine lv_icmp_le (tgt := 87) hx hb dX9_off_80 (by decide) (fun c20 => ?_) (fun c20 => ?_)
    · have hf := g_ift hf c20
      refine lv_iconst (v := 0) hx hb dX9_off_87 (by decide) ?_
      obtain rfl := g_some hf
      exact g_ri X E hP hS dX9_off_88
    · have hf := g_iff hf c20
      refine lv_iconst (v := 1) hx hb dX9_off_83 (by decide) ?_
      refine lv_goto (tgt := 88) hx hb dX9_off_84 (by decide) ?_
      obtain rfl := g_some hf
      exact g_ri X E hP hS dX9_off_88
  have hf := g_iff hf c13
  refine lv_tableOut (tgt := 89) hx hb dX9_off_3 (by have e0 := lv_neT (a := 0) c1 (by decide); have e1 := lv_neT (a := 1) c4 (by decide); have e2 := lv_neT (a := 2) c10 (by decide); have e3 := lv_neT (a := 3) c13 (by decide); omega) (by decide) ?_
  refine lv_aload_n hx hb dX9_off_89 rfl (lv_at hl 1 rfl) ?_
  refine lv_bipush (v := -5) hx hb dX9_off_90 (by decide) ?_
  obtain ⟨u21, h22, hf⟩ := g_bind hf
  refine g_vi (rest := []) X E hP hS (tcX9_noFar l G _ _ h22) (g_cwV X gX9_off_X9_noFar rfl hdX9_noFar ⟨Nat.le_of_ble_eq_true rfl, Nat.le_of_ble_eq_true rfl⟩) (rcM_model E hP) rfl hl.1 rfl (Nat.le_of_ble_eq_true rfl) dX9_off_92 ⟨Nat.le_refl _, Nat.le_refl _⟩ (fun H locs hP hS => ?_)
  obtain rfl := g_some hf
  exact g_ri X E hP hS dX9_off_95
theorem lkX9_weights_0 : Cond.fieldLink RX9 38 RX9 "back" "[I" ∈ wsX9_weights := by decide +kernel
theorem lkX9_weights_1 : Cond.fieldLink RX9 41 RX9 "on" "[I" ∈ wsX9_weights := by decide +kernel
theorem inX9_weights_X9 : ∀ w ∈ wsX90, w ∈ wsX9_weights := by decide +kernel
def fX9_weights_5 : Nat → GS → Int32 → Int32 → Int64 → Int32 → Option Int64
  | 0, _, _, _, _, _ => none
  | fu + 1, S, v1, v2, v3, v5 =>
    if v2 ≤ v5 then
      some v3
    else
      if v5 < 0 ∨ 16 ≤ (v5).toNatClampNeg then none else
      if v5 < 0 ∨ 16 ≤ (v5).toNatClampNeg then none else
      if v1 = 0 then
        fX9_weights_5 fu S v1 v2 (v3 + (1 : Int64)) (v5 + 1)
      else
        if v1 = (1 : Int32) then
          fX9_weights_5 fu S v1 v2 (v3 + (((S.2.2.1 11 (v5).toNatClampNeg) + (S.2.2.1 12 (v5).toNatClampNeg))).toInt64) (v5 + 1)
        else
          fX9_weights_5 fu S v1 v2 (v3 + ((((S.2.2.1 11 (v5).toNatClampNeg) + (S.2.2.1 12 (v5).toNatClampNeg))).toInt64 * (((S.2.2.1 11 (v5).toNatClampNeg) + (S.2.2.1 12 (v5).toNatClampNeg))).toInt64)) (v5 + 1)
set_option maxHeartbeats 4000000 in
set_option maxRecDepth 100000 in
theorem bX9_weights_5 {p : Program} {l : Launch} {e : Env} {s : State} {m : MethodId} {args : Array Value} {below : List Frame} {meth : Method} {c : Code} {Q : State → Prop} {G : GP} (X : GX p s m meth c args cX9_weights 8 (some .long) wsX9_weights RX9) (E : gE WM G s)  : ∀ (fu : Nat) (S : GS) (v1 : Int32) (v2 : Int32) (v3 : Int64) (v5 : Int32) (R : Int64) (H : Heap) (locs : List Loc) (ls : Array Slot) (_ : fX9_weights_5 fu S v1 v2 v3 v5 = some R) (_ : va_P (gD G) vwCl (WM G S ++ gF G) H) (_ : va_S (gA G) s.heap H locs) (_ : lv_has ls 8 [(0, .ref (ga G 63)), (1, .int v1), (2, .int v2), (3, .long v3), (5, .int v5)]) (_ : ∀ (H : Heap) (locs : List Loc) (ls : Array Slot), va_P (gD G) vwCl (WM G S ++ gF G) H → va_S (gA G) s.heap H locs → lv_has ls 8 [(3, .long R)] → W p l e (gR 0 0) s m args below meth c H locs 0 0 Q (F0 m 61 ls [])), W p l e (gR 0 0) s m args below meth c H locs 0 0 Q (F0 m 5 ls []) := by
  obtain ⟨hx, hb, -, -, hown, hts, -⟩ := id X
  intro fu
  induction fu with
  | zero =>
    intro S v1 v2 v3 v5 R H locs ls hf
    cases (show (none : Option Int64) = some R from hf)
  | succ fu ih =>
    intro S v1 v2 v3 v5 R H locs ls hf hP hS hl kk
    rw [fX9_weights_5] at hf
    refine lv_iload hx hb dX9_weights_5 (lv_at hl 4 rfl) ?_
    refine lv_iload_n hx hb dX9_weights_7 rfl (lv_at hl 2 rfl) ?_
    refine lv_icmp_ge (tgt := 61) hx hb dX9_weights_8 (by decide) (fun c1 => ?_) (fun c1 => ?_)
    · have hf := g_ift hf c1
      obtain rfl := g_some hf
      exact kk _ _ _ hP hS (lv_sub hl [3] rfl)
    · have hf := g_iff hf c1
      refine lv_aload_n hx hb dX9_weights_11 rfl (lv_at hl 0 rfl) ?_
      refine ggM_11 X E hP inX9_weights_X9 lkX9_weights_0 dX9_weights_12 ?_
      refine lv_iload hx hb dX9_weights_15 (lv_at hl 4 rfl) ?_
      obtain ⟨b2, hf⟩ := g_if hf
      refine giM_11 X E hP b2 dX9_weights_17 ?_
      refine lv_aload_n hx hb dX9_weights_18 rfl (lv_at hl 0 rfl) ?_
      refine ggM_12 X E hP inX9_weights_X9 lkX9_weights_1 dX9_weights_19 ?_
      refine lv_iload hx hb dX9_weights_22 (lv_at hl 4 rfl) ?_
      obtain ⟨b3, hf⟩ := g_if hf
      refine giM_12 X E hP b3 dX9_weights_24 ?_
      refine lv_iadd hx hb dX9_weights_25 ?_
      refine lv_i2l hx hb dX9_weights_26 rfl ?_
      refine lv_lstore (lv' := [(6, .long (((S.2.2.1 11 (v5).toNatClampNeg) + (S.2.2.1 12 (v5).toNatClampNeg))).toInt64), (0, .ref (ga G 63)), (1, .int v1), (2, .int v2), (3, .long v3), (5, .int v5)]) hx hb dX9_weights_27 hl (by decide) rfl (fun ls hl => ?_)
      refine lv_lload_n hx hb dX9_weights_29 rfl (lv_at hl 4 rfl) ?_
      refine lv_iload_n hx hb dX9_weights_30 rfl (lv_at hl 2 rfl) ?_
      refine lv_if_ne (tgt := 38) hx hb dX9_weights_31 (by decide) (fun c4 => ?_) (fun c4 => ?_)
      · have hf := g_iff hf c4
        refine lv_iload_n hx hb dX9_weights_38 rfl (lv_at hl 2 rfl) ?_
        refine lv_iconst (v := 1) hx hb dX9_weights_39 (by decide) ?_
        refine lv_icmp_ne (tgt := 48) hx hb dX9_weights_40 (by decide) (fun c5 => ?_) (fun c5 => ?_)
        · have hf := g_iff hf c5
          refine lv_lload hx hb dX9_weights_48 (lv_at hl 0 rfl) ?_
          refine lv_lload hx hb dX9_weights_50 (lv_at hl 0 rfl) ?_
          refine lv_lmul hx hb dX9_weights_52 ?_
          refine lv_ladd hx hb dX9_weights_53 ?_
          refine lv_lstore_n (lv' := [(3, .long (v3 + ((((S.2.2.1 11 (v5).toNatClampNeg) + (S.2.2.1 12 (v5).toNatClampNeg))).toInt64 * (((S.2.2.1 11 (v5).toNatClampNeg) + (S.2.2.1 12 (v5).toNatClampNeg))).toInt64))), (6, .long (((S.2.2.1 11 (v5).toNatClampNeg) + (S.2.2.1 12 (v5).toNatClampNeg))).toInt64), (0, .ref (ga G 63)), (1, .int v1), (2, .int v2), (5, .int v5)]) hx hb dX9_weights_54 rfl hl (by decide) rfl (fun ls hl => ?_)
          refine lv_iinc (v := (v5 + 1)) (lv' := [(5, .int (v5 + 1)), (3, .long (v3 + ((((S.2.2.1 11 (v5).toNatClampNeg) + (S.2.2.1 12 (v5).toNatClampNeg))).toInt64 * (((S.2.2.1 11 (v5).toNatClampNeg) + (S.2.2.1 12 (v5).toNatClampNeg))).toInt64))), (6, .long (((S.2.2.1 11 (v5).toNatClampNeg) + (S.2.2.1 12 (v5).toNatClampNeg))).toInt64), (0, .ref (ga G 63)), (1, .int v1), (2, .int v2)]) hx hb dX9_weights_55 hl (k := 5) rfl rfl (by decide) rfl (fun ls hl => ?_)
          refine lv_goto (tgt := 5) hx hb dX9_weights_58 (by decide) ?_
          exact ih _ _ _ _ _ _ _ _ _ hf hP hS (lv_sub hl [3, 4, 5, 1, 0] rfl) kk
        · have hf := g_ift hf c5
          refine lv_lload hx hb dX9_weights_43 (lv_at hl 0 rfl) ?_
          refine lv_goto (tgt := 53) hx hb dX9_weights_45 (by decide) ?_
          refine lv_ladd hx hb dX9_weights_53 ?_
          refine lv_lstore_n (lv' := [(3, .long (v3 + (((S.2.2.1 11 (v5).toNatClampNeg) + (S.2.2.1 12 (v5).toNatClampNeg))).toInt64)), (6, .long (((S.2.2.1 11 (v5).toNatClampNeg) + (S.2.2.1 12 (v5).toNatClampNeg))).toInt64), (0, .ref (ga G 63)), (1, .int v1), (2, .int v2), (5, .int v5)]) hx hb dX9_weights_54 rfl hl (by decide) rfl (fun ls hl => ?_)
          refine lv_iinc (v := (v5 + 1)) (lv' := [(5, .int (v5 + 1)), (3, .long (v3 + (((S.2.2.1 11 (v5).toNatClampNeg) + (S.2.2.1 12 (v5).toNatClampNeg))).toInt64)), (6, .long (((S.2.2.1 11 (v5).toNatClampNeg) + (S.2.2.1 12 (v5).toNatClampNeg))).toInt64), (0, .ref (ga G 63)), (1, .int v1), (2, .int v2)]) hx hb dX9_weights_55 hl (k := 5) rfl rfl (by decide) rfl (fun ls hl => ?_)
          refine lv_goto (tgt := 5) hx hb dX9_weights_58 (by decide) ?_
          exact ih _ _ _ _ _ _ _ _ _ hf hP hS (lv_sub hl [3, 4, 5, 1, 0] rfl) kk
      · have hf := g_ift hf c4
        refine lv_lconst (v := 1) hx hb dX9_weights_34 (by decide) ?_
        refine lv_goto (tgt := 53) hx hb dX9_weights_35 (by decide) ?_
        refine lv_ladd hx hb dX9_weights_53 ?_
        refine lv_lstore_n (lv' := [(3, .long (v3 + (1 : Int64))), (6, .long (((S.2.2.1 11 (v5).toNatClampNeg) + (S.2.2.1 12 (v5).toNatClampNeg))).toInt64), (0, .ref (ga G 63)), (1, .int v1), (2, .int v2), (5, .int v5)]) hx hb dX9_weights_54 rfl hl (by decide) rfl (fun ls hl => ?_)
        refine lv_iinc (v := (v5 + 1)) (lv' := [(5, .int (v5 + 1)), (3, .long (v3 + (1 : Int64))), (6, .long (((S.2.2.1 11 (v5).toNatClampNeg) + (S.2.2.1 12 (v5).toNatClampNeg))).toInt64), (0, .ref (ga G 63)), (1, .int v1), (2, .int v2)]) hx hb dX9_weights_55 hl (k := 5) rfl rfl (by decide) rfl (fun ls hl => ?_)
        refine lv_goto (tgt := 5) hx hb dX9_weights_58 (by decide) ?_
        exact ih _ _ _ _ _ _ _ _ _ hf hP hS (lv_sub hl [3, 4, 5, 1, 0] rfl) kk
def fX9_weights (S : GS) (a1 : Int32) (a2 : Int32) : Option Int64 :=
  (fX9_weights_5 gFuel S a1 a2 (0 : Int64) (0 : Int32)).bind fun u6 =>
  some u6
set_option maxHeartbeats 4000000 in
set_option maxRecDepth 100000 in
theorem tcX9_weights (l : Launch) (G : GP) (S : GS) (a1 : Int32) (a2 : Int32) {R : Int64} (hf : fX9_weights S a1 a2 = some R) : CL l yX9_weights wsX9_weights 0 0 [.ref (ga G 63), .int a1, .int a2] WM G S R S := by
  refine g_met RX9 (cc := cX9_weights) (nL := 8) (ret := (some .long)) (by decide) rfl rfl (Nat.le_of_ble_eq_true rfl) ?_
  intro p e s m below meth c ls X E hP hS hl
  have hl : lv_has ls 8 [(0, .ref (ga G 63)), (1, .int a1), (2, .int a2)] := hl
  obtain ⟨hx, hb, -, -, hown, hts, -⟩ := id X
  rw [fX9_weights] at hf
  refine lv_lconst (v := 0) hx hb dX9_weights_0 (by decide) ?_
  refine lv_lstore_n (lv' := [(3, .long (0 : Int64)), (0, .ref (ga G 63)), (1, .int a1), (2, .int a2)]) hx hb dX9_weights_1 rfl hl (by decide) rfl (fun ls hl => ?_)
  refine lv_iconst (v := 0) hx hb dX9_weights_2 (by decide) ?_
  refine lv_istore (lv' := [(5, .int (0 : Int32)), (3, .long (0 : Int64)), (0, .ref (ga G 63)), (1, .int a1), (2, .int a2)]) hx hb dX9_weights_3 hl (by decide) rfl (fun ls hl => ?_)
  obtain ⟨u6, h7, hf⟩ := g_bind hf
  refine bX9_weights_5 X E gFuel _ _ _ _ _ u6 _ _ _ h7 hP hS (lv_sub hl [2, 3, 4, 1, 0] rfl) (fun H locs ls hP hS hl => ?_)
  have hl : lv_has ls 8 [(3, .long u6)] := hl
  refine lv_lload_n hx hb dX9_weights_61 rfl (lv_at hl 0 rfl) ?_
  obtain rfl := g_some hf
  exact g_rl X E hP hS dX9_weights_62
theorem lkX9_spread_0 : Cond.fieldLink RX9 91 RX9 "many" "I" ∈ wsX9_spread := by decide +kernel
theorem lkX9_spread_1 : Cond.fieldLink RX9 134 RX9 "start" "I" ∈ wsX9_spread := by decide +kernel
theorem inX9_spread_X9 : ∀ w ∈ wsX90, w ∈ wsX9_spread := by decide +kernel
def fX9_spread (S : GS) (a1 : Int32) (a2 : Int32) : Option (Int32 × GS) :=
  if a2 < 0 then
    (fX9_noFar S (-5 : Int32)).bind fun u2 =>
    some (u2.1, u2.2)
  else
    if (S.1 0) < a2 then
      (fX9_noFar S (-5 : Int32)).bind fun u5 =>
      some (u5.1, u5.2)
    else
      if a1 < 0 then
        (fX9_noFar S (-5 : Int32)).bind fun u8 =>
        some (u8.1, u8.2)
      else
        if (2 : Int32) < a1 then
          (fX9_noFar S (-5 : Int32)).bind fun u11 =>
          some (u11.1, u11.2)
        else
          if (S.1 0) = 0 then
            (fX9_noFar S (-5 : Int32)).bind fun u23 =>
            some (u23.1, u23.2)
          else
            (fX9_rises S (0 : Int32) a2).bind fun u14 =>
            (fX9_offAll S).bind fun u16 =>
            (fX9_weights S a1 a2).bind fun u18 =>
            (fX9_weights S a1 (S.1 0)).bind fun u20 =>
            if u20 = 0 then none else
            some ((((S.1 1) + u14) - ((((u16).toInt64 * u18) / u20)).toInt32), S)
set_option maxHeartbeats 4000000 in
set_option maxRecDepth 100000 in
theorem tcX9_spread (l : Launch) (G : GP) (S : GS) (a1 : Int32) (a2 : Int32) {R : (Int32 × GS)} (hf : fX9_spread S a1 a2 = some R) : CI l yX9_spread wsX9_spread 5 108 [.ref (ga G 63), .int a1, .int a2] WM G S R.1 R.2 := by
  refine g_met RX9 (cc := cX9_spread) (nL := 3) (ret := (some .int)) (by decide) rfl rfl (Nat.le_of_ble_eq_true rfl) ?_
  intro p e s m below meth c ls X E hP hS hl
  have hl : lv_has ls 3 [(0, .ref (ga G 63)), (1, .int a1), (2, .int a2)] := hl
  obtain ⟨hx, hb, -, -, hown, hts, -⟩ := id X
  rw [fX9_spread] at hf
  refine lv_iload_n hx hb dX9_spread_0 rfl (lv_at hl 2 rfl) ?_
  refine lv_if_lt (tgt := 28) hx hb dX9_spread_1 (by decide) (fun c1 => ?_) (fun c1 => ?_)
  · have hf := g_ift hf c1
    refine lv_aload_n hx hb dX9_spread_28 rfl (lv_at hl 0 rfl) ?_
    refine lv_bipush (v := -5) hx hb dX9_spread_29 (by decide) ?_
    obtain ⟨u2, h3, hf⟩ := g_bind hf
    refine g_vi (rest := []) X E hP hS (tcX9_noFar l G _ _ h3) (g_cwV X gX9_spread_X9_noFar rfl hdX9_noFar ⟨Nat.le_of_ble_eq_true rfl, Nat.le_of_ble_eq_true rfl⟩) (rcM_model E hP) rfl hl.1 rfl (Nat.le_of_ble_eq_true rfl) dX9_spread_31 ⟨Nat.le_refl _, Nat.le_refl _⟩ (fun H locs hP hS => ?_)
    obtain rfl := g_some hf
    exact g_ri X E hP hS dX9_spread_34
  · have hf := g_iff hf c1
    refine lv_iload_n hx hb dX9_spread_4 rfl (lv_at hl 2 rfl) ?_
    refine lv_aload_n hx hb dX9_spread_5 rfl (lv_at hl 0 rfl) ?_
    refine ggM_0 X E hP inX9_spread_X9 lkX9_spread_0 dX9_spread_6 ?_
    refine lv_icmp_gt (tgt := 28) hx hb dX9_spread_9 (by decide) (fun c4 => ?_) (fun c4 => ?_)
    · have hf := g_ift hf c4
      refine lv_aload_n hx hb dX9_spread_28 rfl (lv_at hl 0 rfl) ?_
      refine lv_bipush (v := -5) hx hb dX9_spread_29 (by decide) ?_
      obtain ⟨u5, h6, hf⟩ := g_bind hf
      refine g_vi (rest := []) X E hP hS (tcX9_noFar l G _ _ h6) (g_cwV X gX9_spread_X9_noFar rfl hdX9_noFar ⟨Nat.le_of_ble_eq_true rfl, Nat.le_of_ble_eq_true rfl⟩) (rcM_model E hP) rfl hl.1 rfl (Nat.le_of_ble_eq_true rfl) dX9_spread_31 ⟨Nat.le_refl _, Nat.le_refl _⟩ (fun H locs hP hS => ?_)
      obtain rfl := g_some hf
      exact g_ri X E hP hS dX9_spread_34
    · have hf := g_iff hf c4
      refine lv_iload_n hx hb dX9_spread_12 rfl (lv_at hl 1 rfl) ?_
      refine lv_if_lt (tgt := 28) hx hb dX9_spread_13 (by decide) (fun c7 => ?_) (fun c7 => ?_)
      · have hf := g_ift hf c7
        refine lv_aload_n hx hb dX9_spread_28 rfl (lv_at hl 0 rfl) ?_
        refine lv_bipush (v := -5) hx hb dX9_spread_29 (by decide) ?_
        obtain ⟨u8, h9, hf⟩ := g_bind hf
        refine g_vi (rest := []) X E hP hS (tcX9_noFar l G _ _ h9) (g_cwV X gX9_spread_X9_noFar rfl hdX9_noFar ⟨Nat.le_of_ble_eq_true rfl, Nat.le_of_ble_eq_true rfl⟩) (rcM_model E hP) rfl hl.1 rfl (Nat.le_of_ble_eq_true rfl) dX9_spread_31 ⟨Nat.le_refl _, Nat.le_refl _⟩ (fun H locs hP hS => ?_)
        obtain rfl := g_some hf
        exact g_ri X E hP hS dX9_spread_34
      · have hf := g_iff hf c7
        refine lv_iload_n hx hb dX9_spread_16 rfl (lv_at hl 1 rfl) ?_
        refine lv_iconst (v := 2) hx hb dX9_spread_17 (by decide) ?_
        refine lv_icmp_gt (tgt := 28) hx hb dX9_spread_18 (by decide) (fun c10 => ?_) (fun c10 => ?_)
        · have hf := g_ift hf c10
          refine lv_aload_n hx hb dX9_spread_28 rfl (lv_at hl 0 rfl) ?_
          refine lv_bipush (v := -5) hx hb dX9_spread_29 (by decide) ?_
          obtain ⟨u11, h12, hf⟩ := g_bind hf
          refine g_vi (rest := []) X E hP hS (tcX9_noFar l G _ _ h12) (g_cwV X gX9_spread_X9_noFar rfl hdX9_noFar ⟨Nat.le_of_ble_eq_true rfl, Nat.le_of_ble_eq_true rfl⟩) (rcM_model E hP) rfl hl.1 rfl (Nat.le_of_ble_eq_true rfl) dX9_spread_31 ⟨Nat.le_refl _, Nat.le_refl _⟩ (fun H locs hP hS => ?_)
          obtain rfl := g_some hf
          exact g_ri X E hP hS dX9_spread_34
        · have hf := g_iff hf c10
          refine lv_aload_n hx hb dX9_spread_21 rfl (lv_at hl 0 rfl) ?_
          refine ggM_0 X E hP inX9_spread_X9 lkX9_spread_0 dX9_spread_22 ?_
          refine lv_if_ne (tgt := 35) hx hb dX9_spread_25 (by decide) (fun c13 => ?_) (fun c13 => ?_)
          · have hf := g_iff hf c13
            refine lv_aload_n hx hb dX9_spread_35 rfl (lv_at hl 0 rfl) ?_
            refine ggM_1 X E hP inX9_spread_X9 lkX9_spread_1 dX9_spread_36 ?_
            refine lv_aload_n hx hb dX9_spread_39 rfl (lv_at hl 0 rfl) ?_
            refine lv_iconst (v := 0) hx hb dX9_spread_40 (by decide) ?_
            refine lv_iload_n hx hb dX9_spread_41 rfl (lv_at hl 2 rfl) ?_
            obtain ⟨u14, h15, hf⟩ := g_bind hf
            refine g_vi (rest := [.int (S.1 1)]) X E hP hS (tcX9_rises l G _ _ _ h15) (g_cwV X gX9_spread_X9_rises rfl hdX9_rises ⟨Nat.le_of_ble_eq_true rfl, Nat.le_of_ble_eq_true rfl⟩) (rcM_model E hP) rfl hl.1 rfl (Nat.le_of_ble_eq_true rfl) dX9_spread_42 ⟨Nat.le_refl _, Nat.le_refl _⟩ (fun H locs hP hS => ?_)
            refine lv_iadd hx hb dX9_spread_45 ?_
            refine lv_aload_n hx hb dX9_spread_46 rfl (lv_at hl 0 rfl) ?_
            obtain ⟨u16, h17, hf⟩ := g_bind hf
            refine g_vi (rest := [.int ((S.1 1) + u14)]) X E hP hS (tcX9_offAll l G _  h17) (g_cwV X gX9_spread_X9_offAll rfl hdX9_offAll ⟨Nat.le_of_ble_eq_true rfl, Nat.le_of_ble_eq_true rfl⟩) (rcM_model E hP) rfl hl.1 rfl (Nat.le_of_ble_eq_true rfl) dX9_spread_47 ⟨Nat.le_refl _, Nat.le_refl _⟩ (fun H locs hP hS => ?_)
            refine lv_i2l hx hb dX9_spread_50 rfl ?_
            refine lv_aload_n hx hb dX9_spread_51 rfl (lv_at hl 0 rfl) ?_
            refine lv_iload_n hx hb dX9_spread_52 rfl (lv_at hl 1 rfl) ?_
            refine lv_iload_n hx hb dX9_spread_53 rfl (lv_at hl 2 rfl) ?_
            obtain ⟨u18, h19, hf⟩ := g_bind hf
            refine g_vl (rest := [.long (u16).toInt64, .int ((S.1 1) + u14)]) X E hP hS (tcX9_weights l G _ _ _ h19) (g_cwV X gX9_spread_X9_weights rfl hdX9_weights ⟨Nat.le_of_ble_eq_true rfl, Nat.le_of_ble_eq_true rfl⟩) (rcM_model E hP) rfl hl.1 rfl (Nat.le_of_ble_eq_true rfl) dX9_spread_54 ⟨Nat.le_refl _, Nat.le_refl _⟩ (fun H locs hP hS => ?_)
            refine lv_lmul hx hb dX9_spread_57 ?_
            refine lv_aload_n hx hb dX9_spread_58 rfl (lv_at hl 0 rfl) ?_
            refine lv_iload_n hx hb dX9_spread_59 rfl (lv_at hl 1 rfl) ?_
            refine lv_aload_n hx hb dX9_spread_60 rfl (lv_at hl 0 rfl) ?_
            refine ggM_0 X E hP inX9_spread_X9 lkX9_spread_0 dX9_spread_61 ?_
            obtain ⟨u20, h21, hf⟩ := g_bind hf
            refine g_vl (rest := [.long ((u16).toInt64 * u18), .int ((S.1 1) + u14)]) X E hP hS (tcX9_weights l G _ _ _ h21) (g_cwV X gX9_spread_X9_weights rfl hdX9_weights ⟨Nat.le_of_ble_eq_true rfl, Nat.le_of_ble_eq_true rfl⟩) (rcM_model E hP) rfl hl.1 rfl (Nat.le_of_ble_eq_true rfl) dX9_spread_64 ⟨Nat.le_refl _, Nat.le_refl _⟩ (fun H locs hP hS => ?_)
            obtain ⟨z22, hf⟩ := g_if hf
            refine lv_ldiv hx hb dX9_spread_67 z22 ?_
            refine lv_l2i hx hb dX9_spread_68 rfl ?_
            refine lv_isub hx hb dX9_spread_69 ?_
            obtain rfl := g_some hf
            exact g_ri X E hP hS dX9_spread_70
          · have hf := g_ift hf c13
            refine lv_aload_n hx hb dX9_spread_28 rfl (lv_at hl 0 rfl) ?_
            refine lv_bipush (v := -5) hx hb dX9_spread_29 (by decide) ?_
            obtain ⟨u23, h24, hf⟩ := g_bind hf
            refine g_vi (rest := []) X E hP hS (tcX9_noFar l G _ _ h24) (g_cwV X gX9_spread_X9_noFar rfl hdX9_noFar ⟨Nat.le_of_ble_eq_true rfl, Nat.le_of_ble_eq_true rfl⟩) (rcM_model E hP) rfl hl.1 rfl (Nat.le_of_ble_eq_true rfl) dX9_spread_31 ⟨Nat.le_refl _, Nat.le_refl _⟩ (fun H locs hP hS => ?_)
            obtain rfl := g_some hf
            exact g_ri X E hP hS dX9_spread_34
theorem lkX9_slips_0 : Cond.fieldLink RX9 32 RX9 "behind" "[I" ∈ wsX9_slips := by decide +kernel
theorem lkX9_slips_1 : Cond.fieldLink RX9 35 RX9 "ahead" "[I" ∈ wsX9_slips := by decide +kernel
theorem lkX9_slips_2 : Cond.fieldLink RX9 212 RX9 "found" "I" ∈ wsX9_slips := by decide +kernel
theorem lkX9_slips_3 : Cond.fieldLink RX9 215 RX9 "foundAt" "I" ∈ wsX9_slips := by decide +kernel
theorem lkX9_slips_4 : Cond.fieldLink RX9 218 RX9 "foundWhich" "I" ∈ wsX9_slips := by decide +kernel
theorem lkX9_slips_5 : Cond.fieldLink RX9 221 RX9 "foundSort" "I" ∈ wsX9_slips := by decide +kernel
theorem lkX9_slips_6 : Cond.fieldLink RX9 224 RX9 "foundAs" "I" ∈ wsX9_slips := by decide +kernel
theorem inX9_slips_X9 : ∀ w ∈ wsX90, w ∈ wsX9_slips := by decide +kernel
def fX9_slips_L73 (S : GS) (v1 : Int32) (v2 : Int32) (v3 : Int32) (v4 : Int32) (v5 : Int32) (v6 : Int32) : Option GS :=
  (fX9_offAll S).bind fun u9 =>
  if v1 < 0 ∨ 16 ≤ (v1).toNatClampNeg then none else
  if v1 < 0 ∨ 16 ≤ (v1).toNatClampNeg then none else
  if u9 = 0 then
    gLet (gU1 (gU3 (gU3 S 9 (v1).toNatClampNeg v5) 10 (v1).toNatClampNeg v6) 32 (((gU3 (gU3 S 9 (v1).toNatClampNeg v5) 10 (v1).toNatClampNeg v6).1 32) + (1 : Int32))) fun T14 =>
    if (T14.1 32) ≤ (1 : Int32) then
      some (gU1 (gU1 (gU1 (gU1 T14 33 v1) 34 v2) 35 v3) 36 v4)
    else
      some T14
  else
    some (gU3 (gU3 S 9 (v1).toNatClampNeg v5) 10 (v1).toNatClampNeg v6)
set_option maxHeartbeats 4000000 in
set_option maxRecDepth 100000 in
theorem bX9_slips_L73 {p : Program} {l : Launch} {e : Env} {s : State} {m : MethodId} {args : Array Value} {below : List Frame} {meth : Method} {c : Code} {G : GP} (X : GX p s m meth c args cX9_slips 8 none wsX9_slips RX9) (E : gE WM G s) (S : GS) (v1 : Int32) (v2 : Int32) (v3 : Int32) (v4 : Int32) (v5 : Int32) (v6 : Int32) (R : GS) (H : Heap) (locs : List Loc) (ls : Array Slot) (hf : fX9_slips_L73 S v1 v2 v3 v4 v5 v6 = some R) (hP : va_P (gD G) vwCl (WM G S ++ gF G) H) (hS : va_S (gA G) s.heap H locs) (hl : lv_has ls 8 [(0, .ref (ga G 63)), (1, .int v1), (2, .int v2), (3, .int v3), (4, .int v4), (5, .int v5), (6, .int v6)]) : W p l e (gR 5 108) s m args below meth c H locs 0 0 (MQ below (gQv WM G R) args s 0 0 (gA G)) (F0 m 73 ls []) := by
  obtain ⟨hx, hb, -, -, hown, hts, -⟩ := id X
  rw [fX9_slips_L73] at hf
  refine lv_aload_n hx hb dX9_slips_73 rfl (lv_at hl 0 rfl) ?_
  obtain ⟨u9, h10, hf⟩ := g_bind hf
  refine g_vi (rest := []) X E hP hS (tcX9_offAll l G _  h10) (g_cwV X gX9_slips_X9_offAll rfl hdX9_offAll ⟨Nat.le_of_ble_eq_true rfl, Nat.le_of_ble_eq_true rfl⟩) (rcM_model E hP) rfl hl.1 rfl (Nat.le_of_ble_eq_true rfl) dX9_slips_74 ⟨Nat.le_refl _, Nat.le_refl _⟩ (fun H locs hP hS => ?_)
  refine lv_istore (lv' := [(7, .int u9), (0, .ref (ga G 63)), (1, .int v1), (2, .int v2), (3, .int v3), (4, .int v4), (5, .int v5), (6, .int v6)]) hx hb dX9_slips_77 hl (by decide) rfl (fun ls hl => ?_)
  refine lv_aload_n hx hb dX9_slips_79 rfl (lv_at hl 1 rfl) ?_
  refine ggM_9 X E hP inX9_slips_X9 lkX9_slips_0 dX9_slips_80 ?_
  refine lv_iload_n hx hb dX9_slips_83 rfl (lv_at hl 2 rfl) ?_
  refine lv_iload hx hb dX9_slips_84 (lv_at hl 6 rfl) ?_
  obtain ⟨b11, hf⟩ := g_if hf
  refine gsM_9 X E hP hS b11 dX9_slips_86 (fun H locs hP hS => ?_)
  refine lv_aload_n hx hb dX9_slips_87 rfl (lv_at hl 1 rfl) ?_
  refine ggM_10 X E hP inX9_slips_X9 lkX9_slips_1 dX9_slips_88 ?_
  refine lv_iload_n hx hb dX9_slips_91 rfl (lv_at hl 2 rfl) ?_
  refine lv_iload hx hb dX9_slips_92 (lv_at hl 7 rfl) ?_
  obtain ⟨b12, hf⟩ := g_if hf
  refine gsM_10 X E hP hS b12 dX9_slips_94 (fun H locs hP hS => ?_)
  refine lv_iload hx hb dX9_slips_95 (lv_at hl 0 rfl) ?_
  refine lv_if_eq (tgt := 101) hx hb dX9_slips_97 (by decide) (fun c13 => ?_) (fun c13 => ?_)
  · have hf := g_ift hf c13
    refine lv_aload_n hx hb dX9_slips_101 rfl (lv_at hl 1 rfl) ?_
    refine lv_dup hx hb dX9_slips_102 rfl ?_
    refine ggM_32 X E hP inX9_slips_X9 lkX9_slips_2 dX9_slips_103 ?_
    refine lv_iconst (v := 1) hx hb dX9_slips_106 (by decide) ?_
    refine lv_iadd hx hb dX9_slips_107 ?_
    refine gpM_32 X E hP hS inX9_slips_X9 lkX9_slips_2 dX9_slips_108 (fun H locs hP hS => ?_)
    obtain ⟨T14, e15, hf⟩ := g_let hf
    rw [← e15] at hP
    refine lv_aload_n hx hb dX9_slips_111 rfl (lv_at hl 1 rfl) ?_
    refine ggM_32 X E hP inX9_slips_X9 lkX9_slips_2 dX9_slips_112 ?_
    refine lv_iconst (v := 1) hx hb dX9_slips_115 (by decide) ?_
    refine lv_icmp_le (tgt := 120) hx hb dX9_slips_116 (by decide) (fun c16 => ?_) (fun c16 => ?_)
    · have hf := g_ift hf c16
      refine lv_aload_n hx hb dX9_slips_120 rfl (lv_at hl 1 rfl) ?_
      refine lv_iload_n hx hb dX9_slips_121 rfl (lv_at hl 2 rfl) ?_
      refine gpM_33 X E hP hS inX9_slips_X9 lkX9_slips_3 dX9_slips_122 (fun H locs hP hS => ?_)
      refine lv_aload_n hx hb dX9_slips_125 rfl (lv_at hl 1 rfl) ?_
      refine lv_iload_n hx hb dX9_slips_126 rfl (lv_at hl 3 rfl) ?_
      refine gpM_34 X E hP hS inX9_slips_X9 lkX9_slips_4 dX9_slips_127 (fun H locs hP hS => ?_)
      refine lv_aload_n hx hb dX9_slips_130 rfl (lv_at hl 1 rfl) ?_
      refine lv_iload_n hx hb dX9_slips_131 rfl (lv_at hl 4 rfl) ?_
      refine gpM_35 X E hP hS inX9_slips_X9 lkX9_slips_5 dX9_slips_132 (fun H locs hP hS => ?_)
      refine lv_aload_n hx hb dX9_slips_135 rfl (lv_at hl 1 rfl) ?_
      refine lv_iload hx hb dX9_slips_136 (lv_at hl 5 rfl) ?_
      refine gpM_36 X E hP hS inX9_slips_X9 lkX9_slips_6 dX9_slips_138 (fun H locs hP hS => ?_)
      obtain rfl := g_some hf
      exact g_rv X E hP hS dX9_slips_141
    · have hf := g_iff hf c16
      obtain rfl := g_some hf
      exact g_rv X E hP hS dX9_slips_119
  · have hf := g_iff hf c13
    obtain rfl := g_some hf
    exact g_rv X E hP hS dX9_slips_100
def fX9_slips (S : GS) (a1 : Int32) (a2 : Int32) (a3 : Int32) (a4 : Int32) : Option GS :=
  (fX9_isReading S a4).bind fun u1 =>
  if u1 = 0 then
    some S
  else
    if a1 < 0 ∨ 16 ≤ (a1).toNatClampNeg then none else
    if a1 < 0 ∨ 16 ≤ (a1).toNatClampNeg then none else
    if a3 = (5 : Int32) then
      if a1 < 0 ∨ 16 ≤ (a1).toNatClampNeg then none else
      if a1 < 0 ∨ 16 ≤ (a1).toNatClampNeg then none else
      gLet (gU3 (gU3 S 9 (a1).toNatClampNeg (S.2.2.1 10 (a1).toNatClampNeg)) 10 (a1).toNatClampNeg (S.2.2.1 9 (a1).toNatClampNeg)) fun T20 =>
      fX9_slips_L73 T20 a1 a2 a3 a4 (S.2.2.1 9 (a1).toNatClampNeg) (S.2.2.1 10 (a1).toNatClampNeg)
    else
      if a2 = 0 then
        if a1 < 0 ∨ 16 ≤ (a1).toNatClampNeg then none else
        fX9_slips_L73 (gU3 S 9 (a1).toNatClampNeg a4) a1 a2 a3 a4 (S.2.2.1 9 (a1).toNatClampNeg) (S.2.2.1 10 (a1).toNatClampNeg)
      else
        if a1 < 0 ∨ 16 ≤ (a1).toNatClampNeg then none else
        fX9_slips_L73 (gU3 S 10 (a1).toNatClampNeg a4) a1 a2 a3 a4 (S.2.2.1 9 (a1).toNatClampNeg) (S.2.2.1 10 (a1).toNatClampNeg)
set_option maxHeartbeats 4000000 in
set_option maxRecDepth 100000 in
theorem tcX9_slips (l : Launch) (G : GP) (S : GS) (a1 : Int32) (a2 : Int32) (a3 : Int32) (a4 : Int32) {R : GS} (hf : fX9_slips S a1 a2 a3 a4 = some R) : CV l yX9_slips wsX9_slips 5 108 [.ref (ga G 63), .int a1, .int a2, .int a3, .int a4] WM G S R := by
  refine g_met RX9 (cc := cX9_slips) (nL := 8) (ret := none) (by decide) rfl rfl (Nat.le_of_ble_eq_true rfl) ?_
  intro p e s m below meth c ls X E hP hS hl
  have hl : lv_has ls 8 [(0, .ref (ga G 63)), (1, .int a1), (2, .int a2), (3, .int a3), (4, .int a4)] := hl
  obtain ⟨hx, hb, -, -, hown, hts, -⟩ := id X
  rw [fX9_slips] at hf
  refine lv_aload_n hx hb dX9_slips_0 rfl (lv_at hl 0 rfl) ?_
  refine lv_iload hx hb dX9_slips_1 (lv_at hl 4 rfl) ?_
  obtain ⟨u1, h2, hf⟩ := g_bind hf
  refine g_vi (rest := []) X E hP hS (tcX9_isReading l G _ _ h2) (g_cwV X gX9_slips_X9_isReading rfl hdX9_isReading ⟨Nat.le_of_ble_eq_true rfl, Nat.le_of_ble_eq_true rfl⟩) (rcM_model E hP) rfl hl.1 rfl (Nat.le_of_ble_eq_true rfl) dX9_slips_3 ⟨Nat.le_refl _, Nat.le_refl _⟩ (fun H locs hP hS => ?_)
  refine lv_if_ne (tgt := 10) hx hb dX9_slips_6 (by decide) (fun c3 => ?_) (fun c3 => ?_)
  · have hf := g_iff hf c3
    refine lv_aload_n hx hb dX9_slips_10 rfl (lv_at hl 0 rfl) ?_
    refine ggM_9 X E hP inX9_slips_X9 lkX9_slips_0 dX9_slips_11 ?_
    refine lv_iload_n hx hb dX9_slips_14 rfl (lv_at hl 1 rfl) ?_
    obtain ⟨b4, hf⟩ := g_if hf
    refine giM_9 X E hP b4 dX9_slips_15 ?_
    refine lv_istore (lv' := [(5, .int (S.2.2.1 9 (a1).toNatClampNeg)), (0, .ref (ga G 63)), (1, .int a1), (2, .int a2), (3, .int a3), (4, .int a4)]) hx hb dX9_slips_16 hl (by decide) rfl (fun ls hl => ?_)
    refine lv_aload_n hx hb dX9_slips_18 rfl (lv_at hl 1 rfl) ?_
    refine ggM_10 X E hP inX9_slips_X9 lkX9_slips_1 dX9_slips_19 ?_
    refine lv_iload_n hx hb dX9_slips_22 rfl (lv_at hl 2 rfl) ?_
    obtain ⟨b5, hf⟩ := g_if hf
    refine giM_10 X E hP b5 dX9_slips_23 ?_
    refine lv_istore (lv' := [(6, .int (S.2.2.1 10 (a1).toNatClampNeg)), (5, .int (S.2.2.1 9 (a1).toNatClampNeg)), (0, .ref (ga G 63)), (1, .int a1), (2, .int a2), (3, .int a3), (4, .int a4)]) hx hb dX9_slips_24 hl (by decide) rfl (fun ls hl => ?_)
    refine lv_iload_n hx hb dX9_slips_26 rfl (lv_at hl 5 rfl) ?_
    refine lv_iconst (v := 5) hx hb dX9_slips_27 (by decide) ?_
    refine lv_icmp_ne (tgt := 50) hx hb dX9_slips_28 (by decide) (fun c6 => ?_) (fun c6 => ?_)
    · have hf := g_iff hf c6
      refine lv_iload_n hx hb dX9_slips_50 rfl (lv_at hl 4 rfl) ?_
      refine lv_if_ne (tgt := 65) hx hb dX9_slips_51 (by decide) (fun c7 => ?_) (fun c7 => ?_)
      · have hf := g_iff hf c7
        refine lv_aload_n hx hb dX9_slips_65 rfl (lv_at hl 2 rfl) ?_
        refine ggM_10 X E hP inX9_slips_X9 lkX9_slips_1 dX9_slips_66 ?_
        refine lv_iload_n hx hb dX9_slips_69 rfl (lv_at hl 3 rfl) ?_
        refine lv_iload hx hb dX9_slips_70 (lv_at hl 6 rfl) ?_
        obtain ⟨b8, hf⟩ := g_if hf
        refine gsM_10 X E hP hS b8 dX9_slips_72 (fun H locs hP hS => ?_)
        exact bX9_slips_L73 X E _ _ _ _ _ _ _ _ _ _ _ hf hP hS (lv_sub hl [2, 3, 4, 5, 6, 1, 0] rfl)
      · have hf := g_ift hf c7
        refine lv_aload_n hx hb dX9_slips_54 rfl (lv_at hl 2 rfl) ?_
        refine ggM_9 X E hP inX9_slips_X9 lkX9_slips_0 dX9_slips_55 ?_
        refine lv_iload_n hx hb dX9_slips_58 rfl (lv_at hl 3 rfl) ?_
        refine lv_iload hx hb dX9_slips_59 (lv_at hl 6 rfl) ?_
        obtain ⟨b17, hf⟩ := g_if hf
        refine gsM_9 X E hP hS b17 dX9_slips_61 (fun H locs hP hS => ?_)
        refine lv_goto (tgt := 73) hx hb dX9_slips_62 (by decide) ?_
        exact bX9_slips_L73 X E _ _ _ _ _ _ _ _ _ _ _ hf hP hS (lv_sub hl [2, 3, 4, 5, 6, 1, 0] rfl)
    · have hf := g_ift hf c6
      refine lv_aload_n hx hb dX9_slips_31 rfl (lv_at hl 2 rfl) ?_
      refine ggM_9 X E hP inX9_slips_X9 lkX9_slips_0 dX9_slips_32 ?_
      refine lv_iload_n hx hb dX9_slips_35 rfl (lv_at hl 3 rfl) ?_
      refine lv_iload hx hb dX9_slips_36 (lv_at hl 0 rfl) ?_
      obtain ⟨b18, hf⟩ := g_if hf
      refine gsM_9 X E hP hS b18 dX9_slips_38 (fun H locs hP hS => ?_)
      refine lv_aload_n hx hb dX9_slips_39 rfl (lv_at hl 2 rfl) ?_
      refine ggM_10 X E hP inX9_slips_X9 lkX9_slips_1 dX9_slips_40 ?_
      refine lv_iload_n hx hb dX9_slips_43 rfl (lv_at hl 3 rfl) ?_
      refine lv_iload hx hb dX9_slips_44 (lv_at hl 1 rfl) ?_
      obtain ⟨b19, hf⟩ := g_if hf
      refine gsM_10 X E hP hS b19 dX9_slips_46 (fun H locs hP hS => ?_)
      obtain ⟨T20, e21, hf⟩ := g_let hf
      rw [← e21] at hP
      refine lv_goto (tgt := 73) hx hb dX9_slips_47 (by decide) ?_
      exact bX9_slips_L73 X E _ _ _ _ _ _ _ _ _ _ _ hf hP hS (lv_sub hl [2, 3, 4, 5, 6, 1, 0] rfl)
  · have hf := g_ift hf c3
    obtain rfl := g_some hf
    exact g_rv X E hP hS dX9_slips_9
theorem lkX9_slipsOf_0 : Cond.fieldLink RX9 35 RX9 "ahead" "[I" ∈ wsX9_slipsOf := by decide +kernel
theorem lkX9_slipsOf_1 : Cond.fieldLink RX9 32 RX9 "behind" "[I" ∈ wsX9_slipsOf := by decide +kernel
theorem inX9_slipsOf_X9 : ∀ w ∈ wsX90, w ∈ wsX9_slipsOf := by decide +kernel
def fX9_slipsOf_34 : Nat → GS → Int32 → Int32 → Int32 → Int32 → Int32 → Option GS
  | 0, _, _, _, _, _, _ => none
  | fu + 1, S, v1, v2, v3, v4, v5 =>
    if v5 ≤ 0 then
      some S
    else
      if v5 = 0 then none else
      if v4 = 0 then
        if ((v3 / v5) - (v3 / v5) / (10 : Int32) * (10 : Int32)) = (6 : Int32) then
          (fX9_slips S v1 v2 v4 (v3 + ((3 : Int32) * v5))).bind fun u16 =>
          if v4 = (1 : Int32) then
            if ((v3 / v5) - (v3 / v5) / (10 : Int32) * (10 : Int32)) = (9 : Int32) then
              (fX9_slips u16 v1 v2 v4 (v3 - ((3 : Int32) * v5))).bind fun u20 =>
              fX9_slipsOf_34 fu u20 v1 v2 v3 v4 (v5 / (10 : Int32))
            else
              fX9_slipsOf_34 fu u16 v1 v2 v3 v4 (v5 / (10 : Int32))
          else
            fX9_slipsOf_34 fu u16 v1 v2 v3 v4 (v5 / (10 : Int32))
        else
          if v4 = (1 : Int32) then
            if ((v3 / v5) - (v3 / v5) / (10 : Int32) * (10 : Int32)) = (9 : Int32) then
              (fX9_slips S v1 v2 v4 (v3 - ((3 : Int32) * v5))).bind fun u14 =>
              fX9_slipsOf_34 fu u14 v1 v2 v3 v4 (v5 / (10 : Int32))
            else
              fX9_slipsOf_34 fu S v1 v2 v3 v4 (v5 / (10 : Int32))
          else
            fX9_slipsOf_34 fu S v1 v2 v3 v4 (v5 / (10 : Int32))
      else
        if v4 = (1 : Int32) then
          if ((v3 / v5) - (v3 / v5) / (10 : Int32) * (10 : Int32)) = (9 : Int32) then
            (fX9_slips S v1 v2 v4 (v3 - ((3 : Int32) * v5))).bind fun u9 =>
            fX9_slipsOf_34 fu u9 v1 v2 v3 v4 (v5 / (10 : Int32))
          else
            fX9_slipsOf_34 fu S v1 v2 v3 v4 (v5 / (10 : Int32))
        else
          fX9_slipsOf_34 fu S v1 v2 v3 v4 (v5 / (10 : Int32))
set_option maxHeartbeats 4000000 in
set_option maxRecDepth 100000 in
theorem bX9_slipsOf_34 {p : Program} {l : Launch} {e : Env} {s : State} {m : MethodId} {args : Array Value} {below : List Frame} {meth : Method} {c : Code} {Q : State → Prop} {G : GP} (X : GX p s m meth c args cX9_slipsOf 7 none wsX9_slipsOf RX9) (E : gE WM G s)  : ∀ (fu : Nat) (S : GS) (v1 : Int32) (v2 : Int32) (v3 : Int32) (v4 : Int32) (v5 : Int32) (R : GS) (H : Heap) (locs : List Loc) (ls : Array Slot) (_ : fX9_slipsOf_34 fu S v1 v2 v3 v4 v5 = some R) (_ : va_P (gD G) vwCl (WM G S ++ gF G) H) (_ : va_S (gA G) s.heap H locs) (_ : lv_has ls 7 [(0, .ref (ga G 63)), (1, .int v1), (2, .int v2), (3, .int v3), (4, .int v4), (5, .int v5)]) (_ : ∀ (H : Heap) (locs : List Loc) (ls : Array Slot), va_P (gD G) vwCl (WM G R ++ gF G) H → va_S (gA G) s.heap H locs → lv_has ls 7 [(0, .ref (ga G 63)), (1, .int v1), (2, .int v2), (3, .int v3), (4, .int v4)] → W p l e (gR 6 135) s m args below meth c H locs 0 0 Q (F0 m 111 ls [])), W p l e (gR 6 135) s m args below meth c H locs 0 0 Q (F0 m 34 ls []) := by
  obtain ⟨hx, hb, -, -, hown, hts, -⟩ := id X
  intro fu
  induction fu with
  | zero =>
    intro S v1 v2 v3 v4 v5 R H locs ls hf
    cases (show (none : Option GS) = some R from hf)
  | succ fu ih =>
    intro S v1 v2 v3 v4 v5 R H locs ls hf hP hS hl kk
    rw [fX9_slipsOf_34] at hf
    refine lv_iload hx hb dX9_slipsOf_34 (lv_at hl 5 rfl) ?_
    refine lv_if_le (tgt := 111) hx hb dX9_slipsOf_36 (by decide) (fun c4 => ?_) (fun c4 => ?_)
    · have hf := g_ift hf c4
      obtain rfl := g_some hf
      exact kk _ _ _ hP hS (lv_sub hl [0, 1, 2, 3, 4] rfl)
    · have hf := g_iff hf c4
      refine lv_iload_n hx hb dX9_slipsOf_39 rfl (lv_at hl 3 rfl) ?_
      refine lv_iload hx hb dX9_slipsOf_40 (lv_at hl 5 rfl) ?_
      obtain ⟨z5, hf⟩ := g_if hf
      refine lv_idiv hx hb dX9_slipsOf_42 z5 ?_
      refine lv_bipush (v := 10) hx hb dX9_slipsOf_43 (by decide) ?_
      refine lv_irem hx hb dX9_slipsOf_45 (by decide) ?_
      refine lv_istore (lv' := [(6, .int ((v3 / v5) - (v3 / v5) / (10 : Int32) * (10 : Int32))), (0, .ref (ga G 63)), (1, .int v1), (2, .int v2), (3, .int v3), (4, .int v4), (5, .int v5)]) hx hb dX9_slipsOf_46 hl (by decide) rfl (fun ls hl => ?_)
      refine lv_iload hx hb dX9_slipsOf_48 (lv_at hl 5 rfl) ?_
      refine lv_if_ne (tgt := 74) hx hb dX9_slipsOf_50 (by decide) (fun c6 => ?_) (fun c6 => ?_)
      · have hf := g_iff hf c6
        refine lv_iload hx hb dX9_slipsOf_74 (lv_at hl 5 rfl) ?_
        refine lv_iconst (v := 1) hx hb dX9_slipsOf_76 (by decide) ?_
        refine lv_icmp_ne (tgt := 101) hx hb dX9_slipsOf_77 (by decide) (fun c7 => ?_) (fun c7 => ?_)
        · have hf := g_iff hf c7
          refine lv_iload hx hb dX9_slipsOf_101 (lv_at hl 6 rfl) ?_
          refine lv_bipush (v := 10) hx hb dX9_slipsOf_103 (by decide) ?_
          refine lv_idiv hx hb dX9_slipsOf_105 (by decide) ?_
          refine lv_istore (lv' := [(5, .int (v5 / (10 : Int32))), (6, .int ((v3 / v5) - (v3 / v5) / (10 : Int32) * (10 : Int32))), (0, .ref (ga G 63)), (1, .int v1), (2, .int v2), (3, .int v3), (4, .int v4)]) hx hb dX9_slipsOf_106 hl (by decide) rfl (fun ls hl => ?_)
          refine lv_goto (tgt := 34) hx hb dX9_slipsOf_108 (by decide) ?_
          exact ih _ _ _ _ _ _ _ _ _ _ hf hP hS (lv_sub hl [2, 3, 4, 5, 6, 0] rfl) kk
        · have hf := g_ift hf c7
          refine lv_iload hx hb dX9_slipsOf_80 (lv_at hl 0 rfl) ?_
          refine lv_bipush (v := 9) hx hb dX9_slipsOf_82 (by decide) ?_
          refine lv_icmp_ne (tgt := 101) hx hb dX9_slipsOf_84 (by decide) (fun c8 => ?_) (fun c8 => ?_)
          · have hf := g_iff hf c8
            refine lv_iload hx hb dX9_slipsOf_101 (lv_at hl 6 rfl) ?_
            refine lv_bipush (v := 10) hx hb dX9_slipsOf_103 (by decide) ?_
            refine lv_idiv hx hb dX9_slipsOf_105 (by decide) ?_
            refine lv_istore (lv' := [(5, .int (v5 / (10 : Int32))), (6, .int ((v3 / v5) - (v3 / v5) / (10 : Int32) * (10 : Int32))), (0, .ref (ga G 63)), (1, .int v1), (2, .int v2), (3, .int v3), (4, .int v4)]) hx hb dX9_slipsOf_106 hl (by decide) rfl (fun ls hl => ?_)
            refine lv_goto (tgt := 34) hx hb dX9_slipsOf_108 (by decide) ?_
            exact ih _ _ _ _ _ _ _ _ _ _ hf hP hS (lv_sub hl [2, 3, 4, 5, 6, 0] rfl) kk
          · have hf := g_ift hf c8
            refine lv_aload_n hx hb dX9_slipsOf_87 rfl (lv_at hl 1 rfl) ?_
            refine lv_iload_n hx hb dX9_slipsOf_88 rfl (lv_at hl 2 rfl) ?_
            refine lv_iload_n hx hb dX9_slipsOf_89 rfl (lv_at hl 3 rfl) ?_
            refine lv_iload hx hb dX9_slipsOf_90 (lv_at hl 5 rfl) ?_
            refine lv_iload_n hx hb dX9_slipsOf_92 rfl (lv_at hl 4 rfl) ?_
            refine lv_iconst (v := 3) hx hb dX9_slipsOf_93 (by decide) ?_
            refine lv_iload hx hb dX9_slipsOf_94 (lv_at hl 6 rfl) ?_
            refine lv_imul hx hb dX9_slipsOf_96 ?_
            refine lv_isub hx hb dX9_slipsOf_97 ?_
            obtain ⟨u9, h10, hf⟩ := g_bind hf
            refine g_vv (rest := []) X E hP hS (tcX9_slips l G _ _ _ _ _ h10) (g_cwV X gX9_slipsOf_X9_slips rfl hdX9_slips ⟨Nat.le_of_ble_eq_true rfl, Nat.le_of_ble_eq_true rfl⟩) (rcM_model E hP) rfl hl.1 rfl (Nat.le_of_ble_eq_true rfl) dX9_slipsOf_98 ⟨Nat.le_refl _, Nat.le_refl _⟩ (fun H locs hP hS => ?_)
            refine lv_iload hx hb dX9_slipsOf_101 (lv_at hl 6 rfl) ?_
            refine lv_bipush (v := 10) hx hb dX9_slipsOf_103 (by decide) ?_
            refine lv_idiv hx hb dX9_slipsOf_105 (by decide) ?_
            refine lv_istore (lv' := [(5, .int (v5 / (10 : Int32))), (6, .int ((v3 / v5) - (v3 / v5) / (10 : Int32) * (10 : Int32))), (0, .ref (ga G 63)), (1, .int v1), (2, .int v2), (3, .int v3), (4, .int v4)]) hx hb dX9_slipsOf_106 hl (by decide) rfl (fun ls hl => ?_)
            refine lv_goto (tgt := 34) hx hb dX9_slipsOf_108 (by decide) ?_
            exact ih _ _ _ _ _ _ _ _ _ _ hf hP hS (lv_sub hl [2, 3, 4, 5, 6, 0] rfl) kk
      · have hf := g_ift hf c6
        refine lv_iload hx hb dX9_slipsOf_53 (lv_at hl 0 rfl) ?_
        refine lv_bipush (v := 6) hx hb dX9_slipsOf_55 (by decide) ?_
        refine lv_icmp_ne (tgt := 74) hx hb dX9_slipsOf_57 (by decide) (fun c11 => ?_) (fun c11 => ?_)
        · have hf := g_iff hf c11
          refine lv_iload hx hb dX9_slipsOf_74 (lv_at hl 5 rfl) ?_
          refine lv_iconst (v := 1) hx hb dX9_slipsOf_76 (by decide) ?_
          refine lv_icmp_ne (tgt := 101) hx hb dX9_slipsOf_77 (by decide) (fun c12 => ?_) (fun c12 => ?_)
          · have hf := g_iff hf c12
            refine lv_iload hx hb dX9_slipsOf_101 (lv_at hl 6 rfl) ?_
            refine lv_bipush (v := 10) hx hb dX9_slipsOf_103 (by decide) ?_
            refine lv_idiv hx hb dX9_slipsOf_105 (by decide) ?_
            refine lv_istore (lv' := [(5, .int (v5 / (10 : Int32))), (6, .int ((v3 / v5) - (v3 / v5) / (10 : Int32) * (10 : Int32))), (0, .ref (ga G 63)), (1, .int v1), (2, .int v2), (3, .int v3), (4, .int v4)]) hx hb dX9_slipsOf_106 hl (by decide) rfl (fun ls hl => ?_)
            refine lv_goto (tgt := 34) hx hb dX9_slipsOf_108 (by decide) ?_
            exact ih _ _ _ _ _ _ _ _ _ _ hf hP hS (lv_sub hl [2, 3, 4, 5, 6, 0] rfl) kk
          · have hf := g_ift hf c12
            refine lv_iload hx hb dX9_slipsOf_80 (lv_at hl 0 rfl) ?_
            refine lv_bipush (v := 9) hx hb dX9_slipsOf_82 (by decide) ?_
            refine lv_icmp_ne (tgt := 101) hx hb dX9_slipsOf_84 (by decide) (fun c13 => ?_) (fun c13 => ?_)
            · have hf := g_iff hf c13
              refine lv_iload hx hb dX9_slipsOf_101 (lv_at hl 6 rfl) ?_
              refine lv_bipush (v := 10) hx hb dX9_slipsOf_103 (by decide) ?_
              refine lv_idiv hx hb dX9_slipsOf_105 (by decide) ?_
              refine lv_istore (lv' := [(5, .int (v5 / (10 : Int32))), (6, .int ((v3 / v5) - (v3 / v5) / (10 : Int32) * (10 : Int32))), (0, .ref (ga G 63)), (1, .int v1), (2, .int v2), (3, .int v3), (4, .int v4)]) hx hb dX9_slipsOf_106 hl (by decide) rfl (fun ls hl => ?_)
              refine lv_goto (tgt := 34) hx hb dX9_slipsOf_108 (by decide) ?_
              exact ih _ _ _ _ _ _ _ _ _ _ hf hP hS (lv_sub hl [2, 3, 4, 5, 6, 0] rfl) kk
            · have hf := g_ift hf c13
              refine lv_aload_n hx hb dX9_slipsOf_87 rfl (lv_at hl 1 rfl) ?_
              refine lv_iload_n hx hb dX9_slipsOf_88 rfl (lv_at hl 2 rfl) ?_
              refine lv_iload_n hx hb dX9_slipsOf_89 rfl (lv_at hl 3 rfl) ?_
              refine lv_iload hx hb dX9_slipsOf_90 (lv_at hl 5 rfl) ?_
              refine lv_iload_n hx hb dX9_slipsOf_92 rfl (lv_at hl 4 rfl) ?_
              refine lv_iconst (v := 3) hx hb dX9_slipsOf_93 (by decide) ?_
              refine lv_iload hx hb dX9_slipsOf_94 (lv_at hl 6 rfl) ?_
              refine lv_imul hx hb dX9_slipsOf_96 ?_
              refine lv_isub hx hb dX9_slipsOf_97 ?_
              obtain ⟨u14, h15, hf⟩ := g_bind hf
              refine g_vv (rest := []) X E hP hS (tcX9_slips l G _ _ _ _ _ h15) (g_cwV X gX9_slipsOf_X9_slips rfl hdX9_slips ⟨Nat.le_of_ble_eq_true rfl, Nat.le_of_ble_eq_true rfl⟩) (rcM_model E hP) rfl hl.1 rfl (Nat.le_of_ble_eq_true rfl) dX9_slipsOf_98 ⟨Nat.le_refl _, Nat.le_refl _⟩ (fun H locs hP hS => ?_)
              refine lv_iload hx hb dX9_slipsOf_101 (lv_at hl 6 rfl) ?_
              refine lv_bipush (v := 10) hx hb dX9_slipsOf_103 (by decide) ?_
              refine lv_idiv hx hb dX9_slipsOf_105 (by decide) ?_
              refine lv_istore (lv' := [(5, .int (v5 / (10 : Int32))), (6, .int ((v3 / v5) - (v3 / v5) / (10 : Int32) * (10 : Int32))), (0, .ref (ga G 63)), (1, .int v1), (2, .int v2), (3, .int v3), (4, .int v4)]) hx hb dX9_slipsOf_106 hl (by decide) rfl (fun ls hl => ?_)
              refine lv_goto (tgt := 34) hx hb dX9_slipsOf_108 (by decide) ?_
              exact ih _ _ _ _ _ _ _ _ _ _ hf hP hS (lv_sub hl [2, 3, 4, 5, 6, 0] rfl) kk
        · have hf := g_ift hf c11
          refine lv_aload_n hx hb dX9_slipsOf_60 rfl (lv_at hl 1 rfl) ?_
          refine lv_iload_n hx hb dX9_slipsOf_61 rfl (lv_at hl 2 rfl) ?_
          refine lv_iload_n hx hb dX9_slipsOf_62 rfl (lv_at hl 3 rfl) ?_
          refine lv_iload hx hb dX9_slipsOf_63 (lv_at hl 5 rfl) ?_
          refine lv_iload_n hx hb dX9_slipsOf_65 rfl (lv_at hl 4 rfl) ?_
          refine lv_iconst (v := 3) hx hb dX9_slipsOf_66 (by decide) ?_
          refine lv_iload hx hb dX9_slipsOf_67 (lv_at hl 6 rfl) ?_
          refine lv_imul hx hb dX9_slipsOf_69 ?_
          refine lv_iadd hx hb dX9_slipsOf_70 ?_
          obtain ⟨u16, h17, hf⟩ := g_bind hf
          refine g_vv (rest := []) X E hP hS (tcX9_slips l G _ _ _ _ _ h17) (g_cwV X gX9_slipsOf_X9_slips rfl hdX9_slips ⟨Nat.le_of_ble_eq_true rfl, Nat.le_of_ble_eq_true rfl⟩) (rcM_model E hP) rfl hl.1 rfl (Nat.le_of_ble_eq_true rfl) dX9_slipsOf_71 ⟨Nat.le_refl _, Nat.le_refl _⟩ (fun H locs hP hS => ?_)
          refine lv_iload hx hb dX9_slipsOf_74 (lv_at hl 5 rfl) ?_
          refine lv_iconst (v := 1) hx hb dX9_slipsOf_76 (by decide) ?_
          refine lv_icmp_ne (tgt := 101) hx hb dX9_slipsOf_77 (by decide) (fun c18 => ?_) (fun c18 => ?_)
          · have hf := g_iff hf c18
            refine lv_iload hx hb dX9_slipsOf_101 (lv_at hl 6 rfl) ?_
            refine lv_bipush (v := 10) hx hb dX9_slipsOf_103 (by decide) ?_
            refine lv_idiv hx hb dX9_slipsOf_105 (by decide) ?_
            refine lv_istore (lv' := [(5, .int (v5 / (10 : Int32))), (6, .int ((v3 / v5) - (v3 / v5) / (10 : Int32) * (10 : Int32))), (0, .ref (ga G 63)), (1, .int v1), (2, .int v2), (3, .int v3), (4, .int v4)]) hx hb dX9_slipsOf_106 hl (by decide) rfl (fun ls hl => ?_)
            refine lv_goto (tgt := 34) hx hb dX9_slipsOf_108 (by decide) ?_
            exact ih _ _ _ _ _ _ _ _ _ _ hf hP hS (lv_sub hl [2, 3, 4, 5, 6, 0] rfl) kk
          · have hf := g_ift hf c18
            refine lv_iload hx hb dX9_slipsOf_80 (lv_at hl 0 rfl) ?_
            refine lv_bipush (v := 9) hx hb dX9_slipsOf_82 (by decide) ?_
            refine lv_icmp_ne (tgt := 101) hx hb dX9_slipsOf_84 (by decide) (fun c19 => ?_) (fun c19 => ?_)
            · have hf := g_iff hf c19
              refine lv_iload hx hb dX9_slipsOf_101 (lv_at hl 6 rfl) ?_
              refine lv_bipush (v := 10) hx hb dX9_slipsOf_103 (by decide) ?_
              refine lv_idiv hx hb dX9_slipsOf_105 (by decide) ?_
              refine lv_istore (lv' := [(5, .int (v5 / (10 : Int32))), (6, .int ((v3 / v5) - (v3 / v5) / (10 : Int32) * (10 : Int32))), (0, .ref (ga G 63)), (1, .int v1), (2, .int v2), (3, .int v3), (4, .int v4)]) hx hb dX9_slipsOf_106 hl (by decide) rfl (fun ls hl => ?_)
              refine lv_goto (tgt := 34) hx hb dX9_slipsOf_108 (by decide) ?_
              exact ih _ _ _ _ _ _ _ _ _ _ hf hP hS (lv_sub hl [2, 3, 4, 5, 6, 0] rfl) kk
            · have hf := g_ift hf c19
              refine lv_aload_n hx hb dX9_slipsOf_87 rfl (lv_at hl 1 rfl) ?_
              refine lv_iload_n hx hb dX9_slipsOf_88 rfl (lv_at hl 2 rfl) ?_
              refine lv_iload_n hx hb dX9_slipsOf_89 rfl (lv_at hl 3 rfl) ?_
              refine lv_iload hx hb dX9_slipsOf_90 (lv_at hl 5 rfl) ?_
              refine lv_iload_n hx hb dX9_slipsOf_92 rfl (lv_at hl 4 rfl) ?_
              refine lv_iconst (v := 3) hx hb dX9_slipsOf_93 (by decide) ?_
              refine lv_iload hx hb dX9_slipsOf_94 (lv_at hl 6 rfl) ?_
              refine lv_imul hx hb dX9_slipsOf_96 ?_
              refine lv_isub hx hb dX9_slipsOf_97 ?_
              obtain ⟨u20, h21, hf⟩ := g_bind hf
              refine g_vv (rest := []) X E hP hS (tcX9_slips l G _ _ _ _ _ h21) (g_cwV X gX9_slipsOf_X9_slips rfl hdX9_slips ⟨Nat.le_of_ble_eq_true rfl, Nat.le_of_ble_eq_true rfl⟩) (rcM_model E hP) rfl hl.1 rfl (Nat.le_of_ble_eq_true rfl) dX9_slipsOf_98 ⟨Nat.le_refl _, Nat.le_refl _⟩ (fun H locs hP hS => ?_)
              refine lv_iload hx hb dX9_slipsOf_101 (lv_at hl 6 rfl) ?_
              refine lv_bipush (v := 10) hx hb dX9_slipsOf_103 (by decide) ?_
              refine lv_idiv hx hb dX9_slipsOf_105 (by decide) ?_
              refine lv_istore (lv' := [(5, .int (v5 / (10 : Int32))), (6, .int ((v3 / v5) - (v3 / v5) / (10 : Int32) * (10 : Int32))), (0, .ref (ga G 63)), (1, .int v1), (2, .int v2), (3, .int v3), (4, .int v4)]) hx hb dX9_slipsOf_106 hl (by decide) rfl (fun ls hl => ?_)
              refine lv_goto (tgt := 34) hx hb dX9_slipsOf_108 (by decide) ?_
              exact ih _ _ _ _ _ _ _ _ _ _ hf hP hS (lv_sub hl [2, 3, 4, 5, 6, 0] rfl) kk
def fX9_slipsOf_23 : Nat → GS → Int32 → Int32 → Int32 → Int32 → Option GS
  | 0, _, _, _, _, _ => none
  | fu + 1, S, v1, v2, v3, v4 =>
    if (2 : Int32) ≤ v4 then
      some S
    else
      (fX9_slipsOf_34 gFuel S v1 v2 v3 v4 (1000 : Int32)).bind fun u22 =>
      fX9_slipsOf_23 fu u22 v1 v2 v3 (v4 + 1)
set_option maxHeartbeats 4000000 in
set_option maxRecDepth 100000 in
theorem bX9_slipsOf_23 {p : Program} {l : Launch} {e : Env} {s : State} {m : MethodId} {args : Array Value} {below : List Frame} {meth : Method} {c : Code} {Q : State → Prop} {G : GP} (X : GX p s m meth c args cX9_slipsOf 7 none wsX9_slipsOf RX9) (E : gE WM G s)  : ∀ (fu : Nat) (S : GS) (v1 : Int32) (v2 : Int32) (v3 : Int32) (v4 : Int32) (R : GS) (H : Heap) (locs : List Loc) (ls : Array Slot) (_ : fX9_slipsOf_23 fu S v1 v2 v3 v4 = some R) (_ : va_P (gD G) vwCl (WM G S ++ gF G) H) (_ : va_S (gA G) s.heap H locs) (_ : lv_has ls 7 [(0, .ref (ga G 63)), (1, .int v1), (2, .int v2), (3, .int v3), (4, .int v4)]) (_ : ∀ (H : Heap) (locs : List Loc) (ls : Array Slot), va_P (gD G) vwCl (WM G R ++ gF G) H → va_S (gA G) s.heap H locs → lv_has ls 7 [(0, .ref (ga G 63)), (1, .int v1), (2, .int v2), (3, .int v3)] → W p l e (gR 6 135) s m args below meth c H locs 0 0 Q (F0 m 117 ls [])), W p l e (gR 6 135) s m args below meth c H locs 0 0 Q (F0 m 23 ls []) := by
  obtain ⟨hx, hb, -, -, hown, hts, -⟩ := id X
  intro fu
  induction fu with
  | zero =>
    intro S v1 v2 v3 v4 R H locs ls hf
    cases (show (none : Option GS) = some R from hf)
  | succ fu ih =>
    intro S v1 v2 v3 v4 R H locs ls hf hP hS hl kk
    rw [fX9_slipsOf_23] at hf
    refine lv_iload hx hb dX9_slipsOf_23 (lv_at hl 4 rfl) ?_
    refine lv_iconst (v := 2) hx hb dX9_slipsOf_25 (by decide) ?_
    refine lv_icmp_ge (tgt := 117) hx hb dX9_slipsOf_26 (by decide) (fun c3 => ?_) (fun c3 => ?_)
    · have hf := g_ift hf c3
      obtain rfl := g_some hf
      exact kk _ _ _ hP hS (lv_sub hl [0, 1, 2, 3] rfl)
    · have hf := g_iff hf c3
      refine lv_sipush (v := 1000) hx hb dX9_slipsOf_29 (by decide) ?_
      refine lv_istore (lv' := [(5, .int (1000 : Int32)), (0, .ref (ga G 63)), (1, .int v1), (2, .int v2), (3, .int v3), (4, .int v4)]) hx hb dX9_slipsOf_32 hl (by decide) rfl (fun ls hl => ?_)
      obtain ⟨u22, h23, hf⟩ := g_bind hf
      refine bX9_slipsOf_34 X E gFuel _ _ _ _ _ _ u22 _ _ _ h23 hP hS (lv_sub hl [1, 2, 3, 4, 5, 0] rfl) (fun H locs ls hP hS hl => ?_)
      have hl : lv_has ls 7 [(0, .ref (ga G 63)), (1, .int v1), (2, .int v2), (3, .int v3), (4, .int v4)] := hl
      have hP : va_P (gD G) vwCl (WM G u22 ++ gF G) H := hP
      refine lv_iinc (v := (v4 + 1)) (lv' := [(4, .int (v4 + 1)), (0, .ref (ga G 63)), (1, .int v1), (2, .int v2), (3, .int v3)]) hx hb dX9_slipsOf_111 hl (k := 4) rfl rfl (by decide) rfl (fun ls hl => ?_)
      refine lv_goto (tgt := 23) hx hb dX9_slipsOf_114 (by decide) ?_
      exact ih _ _ _ _ _ _ _ _ _ hf hP hS (lv_sub hl [1, 2, 3, 4, 0] rfl) kk
def fX9_slipsOf_122 : Nat → GS → Int32 → Int32 → Int32 → Int32 → Option GS
  | 0, _, _, _, _, _ => none
  | fu + 1, S, v1, v2, v3, v4 =>
    if v4 ≤ (1 : Int32) then
      some S
    else
      if v4 = 0 then none else
      if (v4 / (10 : Int32)) = 0 then none else
      if ((v3 / v4) - (v3 / v4) / (10 : Int32) * (10 : Int32)) = ((v3 / (v4 / (10 : Int32))) - (v3 / (v4 / (10 : Int32))) / (10 : Int32) * (10 : Int32)) then
        fX9_slipsOf_122 fu S v1 v2 v3 (v4 / (10 : Int32))
      else
        (fX9_slips S v1 v2 (2 : Int32) ((v3 + ((((v3 / (v4 / (10 : Int32))) - (v3 / (v4 / (10 : Int32))) / (10 : Int32) * (10 : Int32)) - ((v3 / v4) - (v3 / v4) / (10 : Int32) * (10 : Int32))) * v4)) + ((((v3 / v4) - (v3 / v4) / (10 : Int32) * (10 : Int32)) - ((v3 / (v4 / (10 : Int32))) - (v3 / (v4 / (10 : Int32))) / (10 : Int32) * (10 : Int32))) * (v4 / (10 : Int32))))).bind fun u30 =>
        fX9_slipsOf_122 fu u30 v1 v2 v3 (v4 / (10 : Int32))
set_option maxHeartbeats 4000000 in
set_option maxRecDepth 100000 in
theorem bX9_slipsOf_122 {p : Program} {l : Launch} {e : Env} {s : State} {m : MethodId} {args : Array Value} {below : List Frame} {meth : Method} {c : Code} {Q : State → Prop} {G : GP} (X : GX p s m meth c args cX9_slipsOf 7 none wsX9_slipsOf RX9) (E : gE WM G s)  : ∀ (fu : Nat) (S : GS) (v1 : Int32) (v2 : Int32) (v3 : Int32) (v4 : Int32) (R : GS) (H : Heap) (locs : List Loc) (ls : Array Slot) (_ : fX9_slipsOf_122 fu S v1 v2 v3 v4 = some R) (_ : va_P (gD G) vwCl (WM G S ++ gF G) H) (_ : va_S (gA G) s.heap H locs) (_ : lv_has ls 7 [(0, .ref (ga G 63)), (1, .int v1), (2, .int v2), (3, .int v3), (4, .int v4)]) (_ : ∀ (H : Heap) (locs : List Loc) (ls : Array Slot), va_P (gD G) vwCl (WM G R ++ gF G) H → va_S (gA G) s.heap H locs → lv_has ls 7 [(0, .ref (ga G 63)), (1, .int v1), (2, .int v2), (3, .int v3)] → W p l e (gR 6 135) s m args below meth c H locs 0 0 Q (F0 m 195 ls [])), W p l e (gR 6 135) s m args below meth c H locs 0 0 Q (F0 m 122 ls []) := by
  obtain ⟨hx, hb, -, -, hown, hts, -⟩ := id X
  intro fu
  induction fu with
  | zero =>
    intro S v1 v2 v3 v4 R H locs ls hf
    cases (show (none : Option GS) = some R from hf)
  | succ fu ih =>
    intro S v1 v2 v3 v4 R H locs ls hf hP hS hl kk
    rw [fX9_slipsOf_122] at hf
    refine lv_iload hx hb dX9_slipsOf_122 (lv_at hl 4 rfl) ?_
    refine lv_iconst (v := 1) hx hb dX9_slipsOf_124 (by decide) ?_
    refine lv_icmp_le (tgt := 195) hx hb dX9_slipsOf_125 (by decide) (fun c26 => ?_) (fun c26 => ?_)
    · have hf := g_ift hf c26
      obtain rfl := g_some hf
      exact kk _ _ _ hP hS (lv_sub hl [0, 1, 2, 3] rfl)
    · have hf := g_iff hf c26
      refine lv_iload_n hx hb dX9_slipsOf_128 rfl (lv_at hl 3 rfl) ?_
      refine lv_iload hx hb dX9_slipsOf_129 (lv_at hl 4 rfl) ?_
      obtain ⟨z27, hf⟩ := g_if hf
      refine lv_idiv hx hb dX9_slipsOf_131 z27 ?_
      refine lv_bipush (v := 10) hx hb dX9_slipsOf_132 (by decide) ?_
      refine lv_irem hx hb dX9_slipsOf_134 (by decide) ?_
      refine lv_istore (lv' := [(5, .int ((v3 / v4) - (v3 / v4) / (10 : Int32) * (10 : Int32))), (0, .ref (ga G 63)), (1, .int v1), (2, .int v2), (3, .int v3), (4, .int v4)]) hx hb dX9_slipsOf_135 hl (by decide) rfl (fun ls hl => ?_)
      refine lv_iload_n hx hb dX9_slipsOf_137 rfl (lv_at hl 4 rfl) ?_
      refine lv_iload hx hb dX9_slipsOf_138 (lv_at hl 5 rfl) ?_
      refine lv_bipush (v := 10) hx hb dX9_slipsOf_140 (by decide) ?_
      refine lv_idiv hx hb dX9_slipsOf_142 (by decide) ?_
      obtain ⟨z28, hf⟩ := g_if hf
      refine lv_idiv hx hb dX9_slipsOf_143 z28 ?_
      refine lv_bipush (v := 10) hx hb dX9_slipsOf_144 (by decide) ?_
      refine lv_irem hx hb dX9_slipsOf_146 (by decide) ?_
      refine lv_istore (lv' := [(6, .int ((v3 / (v4 / (10 : Int32))) - (v3 / (v4 / (10 : Int32))) / (10 : Int32) * (10 : Int32))), (5, .int ((v3 / v4) - (v3 / v4) / (10 : Int32) * (10 : Int32))), (0, .ref (ga G 63)), (1, .int v1), (2, .int v2), (3, .int v3), (4, .int v4)]) hx hb dX9_slipsOf_147 hl (by decide) rfl (fun ls hl => ?_)
      refine lv_iload hx hb dX9_slipsOf_149 (lv_at hl 1 rfl) ?_
      refine lv_iload hx hb dX9_slipsOf_151 (lv_at hl 0 rfl) ?_
      refine lv_icmp_eq (tgt := 185) hx hb dX9_slipsOf_153 (by decide) (fun c29 => ?_) (fun c29 => ?_)
      · have hf := g_ift hf c29
        refine lv_iload hx hb dX9_slipsOf_185 (lv_at hl 6 rfl) ?_
        refine lv_bipush (v := 10) hx hb dX9_slipsOf_187 (by decide) ?_
        refine lv_idiv hx hb dX9_slipsOf_189 (by decide) ?_
        refine lv_istore (lv' := [(4, .int (v4 / (10 : Int32))), (6, .int ((v3 / (v4 / (10 : Int32))) - (v3 / (v4 / (10 : Int32))) / (10 : Int32) * (10 : Int32))), (5, .int ((v3 / v4) - (v3 / v4) / (10 : Int32) * (10 : Int32))), (0, .ref (ga G 63)), (1, .int v1), (2, .int v2), (3, .int v3)]) hx hb dX9_slipsOf_190 hl (by decide) rfl (fun ls hl => ?_)
        refine lv_goto (tgt := 122) hx hb dX9_slipsOf_192 (by decide) ?_
        exact ih _ _ _ _ _ _ _ _ _ hf hP hS (lv_sub hl [3, 4, 5, 6, 0] rfl) kk
      · have hf := g_iff hf c29
        refine lv_aload_n hx hb dX9_slipsOf_156 rfl (lv_at hl 2 rfl) ?_
        refine lv_iload_n hx hb dX9_slipsOf_157 rfl (lv_at hl 3 rfl) ?_
        refine lv_iload_n hx hb dX9_slipsOf_158 rfl (lv_at hl 4 rfl) ?_
        refine lv_iconst (v := 2) hx hb dX9_slipsOf_159 (by decide) ?_
        refine lv_iload_n hx hb dX9_slipsOf_160 rfl (lv_at hl 5 rfl) ?_
        refine lv_iload hx hb dX9_slipsOf_161 (lv_at hl 0 rfl) ?_
        refine lv_iload hx hb dX9_slipsOf_163 (lv_at hl 1 rfl) ?_
        refine lv_isub hx hb dX9_slipsOf_165 ?_
        refine lv_iload hx hb dX9_slipsOf_166 (lv_at hl 6 rfl) ?_
        refine lv_imul hx hb dX9_slipsOf_168 ?_
        refine lv_iadd hx hb dX9_slipsOf_169 ?_
        refine lv_iload hx hb dX9_slipsOf_170 (lv_at hl 1 rfl) ?_
        refine lv_iload hx hb dX9_slipsOf_172 (lv_at hl 0 rfl) ?_
        refine lv_isub hx hb dX9_slipsOf_174 ?_
        refine lv_iload hx hb dX9_slipsOf_175 (lv_at hl 6 rfl) ?_
        refine lv_bipush (v := 10) hx hb dX9_slipsOf_177 (by decide) ?_
        refine lv_idiv hx hb dX9_slipsOf_179 (by decide) ?_
        refine lv_imul hx hb dX9_slipsOf_180 ?_
        refine lv_iadd hx hb dX9_slipsOf_181 ?_
        obtain ⟨u30, h31, hf⟩ := g_bind hf
        refine g_vv (rest := []) X E hP hS (tcX9_slips l G _ _ _ _ _ h31) (g_cwV X gX9_slipsOf_X9_slips rfl hdX9_slips ⟨Nat.le_of_ble_eq_true rfl, Nat.le_of_ble_eq_true rfl⟩) (rcM_model E hP) rfl hl.1 rfl (Nat.le_of_ble_eq_true rfl) dX9_slipsOf_182 ⟨Nat.le_refl _, Nat.le_refl _⟩ (fun H locs hP hS => ?_)
        refine lv_iload hx hb dX9_slipsOf_185 (lv_at hl 6 rfl) ?_
        refine lv_bipush (v := 10) hx hb dX9_slipsOf_187 (by decide) ?_
        refine lv_idiv hx hb dX9_slipsOf_189 (by decide) ?_
        refine lv_istore (lv' := [(4, .int (v4 / (10 : Int32))), (6, .int ((v3 / (v4 / (10 : Int32))) - (v3 / (v4 / (10 : Int32))) / (10 : Int32) * (10 : Int32))), (5, .int ((v3 / v4) - (v3 / v4) / (10 : Int32) * (10 : Int32))), (0, .ref (ga G 63)), (1, .int v1), (2, .int v2), (3, .int v3)]) hx hb dX9_slipsOf_190 hl (by decide) rfl (fun ls hl => ?_)
        refine lv_goto (tgt := 122) hx hb dX9_slipsOf_192 (by decide) ?_
        exact ih _ _ _ _ _ _ _ _ _ hf hP hS (lv_sub hl [3, 4, 5, 6, 0] rfl) kk
def fX9_slipsOf (S : GS) (a1 : Int32) (a2 : Int32) : Option GS :=
  if a2 = 0 then
    if a1 < 0 ∨ 16 ≤ (a1).toNatClampNeg then none else
    (fX9_slipsOf_23 gFuel S a1 a2 (S.2.2.1 9 (a1).toNatClampNeg) (0 : Int32)).bind fun u43 =>
    (fX9_slipsOf_122 gFuel u43 a1 a2 (S.2.2.1 9 (a1).toNatClampNeg) (1000 : Int32)).bind fun u45 =>
    (fX9_slips u45 a1 a2 (3 : Int32) ((S.2.2.1 9 (a1).toNatClampNeg) - (100 : Int32))).bind fun u47 =>
    (fX9_slips u47 a1 a2 (4 : Int32) ((S.2.2.1 9 (a1).toNatClampNeg) + (100 : Int32))).bind fun u49 =>
    if a2 = 0 then
      if a1 < 0 ∨ 16 ≤ (a1).toNatClampNeg then none else
      (fX9_slips u49 a1 a2 (5 : Int32) (u49.2.2.1 10 (a1).toNatClampNeg)).bind fun u53 =>
      some u53
    else
      some u49
  else
    if a1 < 0 ∨ 16 ≤ (a1).toNatClampNeg then none else
    (fX9_slipsOf_23 gFuel S a1 a2 (S.2.2.1 10 (a1).toNatClampNeg) (0 : Int32)).bind fun u24 =>
    (fX9_slipsOf_122 gFuel u24 a1 a2 (S.2.2.1 10 (a1).toNatClampNeg) (1000 : Int32)).bind fun u32 =>
    (fX9_slips u32 a1 a2 (3 : Int32) ((S.2.2.1 10 (a1).toNatClampNeg) - (100 : Int32))).bind fun u34 =>
    (fX9_slips u34 a1 a2 (4 : Int32) ((S.2.2.1 10 (a1).toNatClampNeg) + (100 : Int32))).bind fun u36 =>
    if a2 = 0 then
      if a1 < 0 ∨ 16 ≤ (a1).toNatClampNeg then none else
      (fX9_slips u36 a1 a2 (5 : Int32) (u36.2.2.1 10 (a1).toNatClampNeg)).bind fun u40 =>
      some u40
    else
      some u36
set_option maxHeartbeats 4000000 in
set_option maxRecDepth 100000 in
theorem tcX9_slipsOf (l : Launch) (G : GP) (S : GS) (a1 : Int32) (a2 : Int32) {R : GS} (hf : fX9_slipsOf S a1 a2 = some R) : CV l yX9_slipsOf wsX9_slipsOf 6 135 [.ref (ga G 63), .int a1, .int a2] WM G S R := by
  refine g_met RX9 (cc := cX9_slipsOf) (nL := 7) (ret := none) (by decide) rfl rfl (Nat.le_of_ble_eq_true rfl) ?_
  intro p e s m below meth c ls X E hP hS hl
  have hl : lv_has ls 7 [(0, .ref (ga G 63)), (1, .int a1), (2, .int a2)] := hl
  obtain ⟨hx, hb, -, -, hown, hts, -⟩ := id X
  rw [fX9_slipsOf] at hf
  refine lv_iload_n hx hb dX9_slipsOf_0 rfl (lv_at hl 2 rfl) ?_
  refine lv_if_ne (tgt := 13) hx hb dX9_slipsOf_1 (by decide) (fun c1 => ?_) (fun c1 => ?_)
  · have hf := g_iff hf c1
    refine lv_aload_n hx hb dX9_slipsOf_13 rfl (lv_at hl 0 rfl) ?_
    refine ggM_10 X E hP inX9_slipsOf_X9 lkX9_slipsOf_0 dX9_slipsOf_14 ?_
    refine lv_iload_n hx hb dX9_slipsOf_17 rfl (lv_at hl 1 rfl) ?_
    obtain ⟨b2, hf⟩ := g_if hf
    refine giM_10 X E hP b2 dX9_slipsOf_18 ?_
    refine lv_istore_n (lv' := [(3, .int (S.2.2.1 10 (a1).toNatClampNeg)), (0, .ref (ga G 63)), (1, .int a1), (2, .int a2)]) hx hb dX9_slipsOf_19 rfl hl (by decide) rfl (fun ls hl => ?_)
    refine lv_iconst (v := 0) hx hb dX9_slipsOf_20 (by decide) ?_
    refine lv_istore (lv' := [(4, .int (0 : Int32)), (3, .int (S.2.2.1 10 (a1).toNatClampNeg)), (0, .ref (ga G 63)), (1, .int a1), (2, .int a2)]) hx hb dX9_slipsOf_21 hl (by decide) rfl (fun ls hl => ?_)
    obtain ⟨u24, h25, hf⟩ := g_bind hf
    refine bX9_slipsOf_23 X E gFuel _ _ _ _ _ u24 _ _ _ h25 hP hS (lv_sub hl [2, 3, 4, 1, 0] rfl) (fun H locs ls hP hS hl => ?_)
    have hl : lv_has ls 7 [(0, .ref (ga G 63)), (1, .int a1), (2, .int a2), (3, .int (S.2.2.1 10 (a1).toNatClampNeg))] := hl
    have hP : va_P (gD G) vwCl (WM G u24 ++ gF G) H := hP
    refine lv_sipush (v := 1000) hx hb dX9_slipsOf_117 (by decide) ?_
    refine lv_istore (lv' := [(4, .int (1000 : Int32)), (0, .ref (ga G 63)), (1, .int a1), (2, .int a2), (3, .int (S.2.2.1 10 (a1).toNatClampNeg))]) hx hb dX9_slipsOf_120 hl (by decide) rfl (fun ls hl => ?_)
    obtain ⟨u32, h33, hf⟩ := g_bind hf
    refine bX9_slipsOf_122 X E gFuel _ _ _ _ _ u32 _ _ _ h33 hP hS (lv_sub hl [1, 2, 3, 4, 0] rfl) (fun H locs ls hP hS hl => ?_)
    have hl : lv_has ls 7 [(0, .ref (ga G 63)), (1, .int a1), (2, .int a2), (3, .int (S.2.2.1 10 (a1).toNatClampNeg))] := hl
    have hP : va_P (gD G) vwCl (WM G u32 ++ gF G) H := hP
    refine lv_aload_n hx hb dX9_slipsOf_195 rfl (lv_at hl 0 rfl) ?_
    refine lv_iload_n hx hb dX9_slipsOf_196 rfl (lv_at hl 1 rfl) ?_
    refine lv_iload_n hx hb dX9_slipsOf_197 rfl (lv_at hl 2 rfl) ?_
    refine lv_iconst (v := 3) hx hb dX9_slipsOf_198 (by decide) ?_
    refine lv_iload_n hx hb dX9_slipsOf_199 rfl (lv_at hl 3 rfl) ?_
    refine lv_bipush (v := 100) hx hb dX9_slipsOf_200 (by decide) ?_
    refine lv_isub hx hb dX9_slipsOf_202 ?_
    obtain ⟨u34, h35, hf⟩ := g_bind hf
    refine g_vv (rest := []) X E hP hS (tcX9_slips l G _ _ _ _ _ h35) (g_cwV X gX9_slipsOf_X9_slips rfl hdX9_slips ⟨Nat.le_of_ble_eq_true rfl, Nat.le_of_ble_eq_true rfl⟩) (rcM_model E hP) rfl hl.1 rfl (Nat.le_of_ble_eq_true rfl) dX9_slipsOf_203 ⟨Nat.le_refl _, Nat.le_refl _⟩ (fun H locs hP hS => ?_)
    refine lv_aload_n hx hb dX9_slipsOf_206 rfl (lv_at hl 0 rfl) ?_
    refine lv_iload_n hx hb dX9_slipsOf_207 rfl (lv_at hl 1 rfl) ?_
    refine lv_iload_n hx hb dX9_slipsOf_208 rfl (lv_at hl 2 rfl) ?_
    refine lv_iconst (v := 4) hx hb dX9_slipsOf_209 (by decide) ?_
    refine lv_iload_n hx hb dX9_slipsOf_210 rfl (lv_at hl 3 rfl) ?_
    refine lv_bipush (v := 100) hx hb dX9_slipsOf_211 (by decide) ?_
    refine lv_iadd hx hb dX9_slipsOf_213 ?_
    obtain ⟨u36, h37, hf⟩ := g_bind hf
    refine g_vv (rest := []) X E hP hS (tcX9_slips l G _ _ _ _ _ h37) (g_cwV X gX9_slipsOf_X9_slips rfl hdX9_slips ⟨Nat.le_of_ble_eq_true rfl, Nat.le_of_ble_eq_true rfl⟩) (rcM_model E hP) rfl hl.1 rfl (Nat.le_of_ble_eq_true rfl) dX9_slipsOf_214 ⟨Nat.le_refl _, Nat.le_refl _⟩ (fun H locs hP hS => ?_)
    refine lv_iload_n hx hb dX9_slipsOf_217 rfl (lv_at hl 2 rfl) ?_
    refine lv_if_ne (tgt := 234) hx hb dX9_slipsOf_218 (by decide) (fun c38 => ?_) (fun c38 => ?_)
    · have hf := g_iff hf c38
      obtain rfl := g_some hf
      exact g_rv X E hP hS dX9_slipsOf_234
    · have hf := g_ift hf c38
      refine lv_aload_n hx hb dX9_slipsOf_221 rfl (lv_at hl 0 rfl) ?_
      refine lv_iload_n hx hb dX9_slipsOf_222 rfl (lv_at hl 1 rfl) ?_
      refine lv_iload_n hx hb dX9_slipsOf_223 rfl (lv_at hl 2 rfl) ?_
      refine lv_iconst (v := 5) hx hb dX9_slipsOf_224 (by decide) ?_
      refine lv_aload_n hx hb dX9_slipsOf_225 rfl (lv_at hl 0 rfl) ?_
      refine ggM_10 X E hP inX9_slipsOf_X9 lkX9_slipsOf_0 dX9_slipsOf_226 ?_
      refine lv_iload_n hx hb dX9_slipsOf_229 rfl (lv_at hl 1 rfl) ?_
      obtain ⟨b39, hf⟩ := g_if hf
      refine giM_10 X E hP b39 dX9_slipsOf_230 ?_
      obtain ⟨u40, h41, hf⟩ := g_bind hf
      refine g_vv (rest := []) X E hP hS (tcX9_slips l G _ _ _ _ _ h41) (g_cwV X gX9_slipsOf_X9_slips rfl hdX9_slips ⟨Nat.le_of_ble_eq_true rfl, Nat.le_of_ble_eq_true rfl⟩) (rcM_model E hP) rfl hl.1 rfl (Nat.le_of_ble_eq_true rfl) dX9_slipsOf_231 ⟨Nat.le_refl _, Nat.le_refl _⟩ (fun H locs hP hS => ?_)
      obtain rfl := g_some hf
      exact g_rv X E hP hS dX9_slipsOf_234
  · have hf := g_ift hf c1
    refine lv_aload_n hx hb dX9_slipsOf_4 rfl (lv_at hl 0 rfl) ?_
    refine ggM_9 X E hP inX9_slipsOf_X9 lkX9_slipsOf_1 dX9_slipsOf_5 ?_
    refine lv_iload_n hx hb dX9_slipsOf_8 rfl (lv_at hl 1 rfl) ?_
    obtain ⟨b42, hf⟩ := g_if hf
    refine giM_9 X E hP b42 dX9_slipsOf_9 ?_
    refine lv_goto (tgt := 19) hx hb dX9_slipsOf_10 (by decide) ?_
    refine lv_istore_n (lv' := [(3, .int (S.2.2.1 9 (a1).toNatClampNeg)), (0, .ref (ga G 63)), (1, .int a1), (2, .int a2)]) hx hb dX9_slipsOf_19 rfl hl (by decide) rfl (fun ls hl => ?_)
    refine lv_iconst (v := 0) hx hb dX9_slipsOf_20 (by decide) ?_
    refine lv_istore (lv' := [(4, .int (0 : Int32)), (3, .int (S.2.2.1 9 (a1).toNatClampNeg)), (0, .ref (ga G 63)), (1, .int a1), (2, .int a2)]) hx hb dX9_slipsOf_21 hl (by decide) rfl (fun ls hl => ?_)
    obtain ⟨u43, h44, hf⟩ := g_bind hf
    refine bX9_slipsOf_23 X E gFuel _ _ _ _ _ u43 _ _ _ h44 hP hS (lv_sub hl [2, 3, 4, 1, 0] rfl) (fun H locs ls hP hS hl => ?_)
    have hl : lv_has ls 7 [(0, .ref (ga G 63)), (1, .int a1), (2, .int a2), (3, .int (S.2.2.1 9 (a1).toNatClampNeg))] := hl
    have hP : va_P (gD G) vwCl (WM G u43 ++ gF G) H := hP
    refine lv_sipush (v := 1000) hx hb dX9_slipsOf_117 (by decide) ?_
    refine lv_istore (lv' := [(4, .int (1000 : Int32)), (0, .ref (ga G 63)), (1, .int a1), (2, .int a2), (3, .int (S.2.2.1 9 (a1).toNatClampNeg))]) hx hb dX9_slipsOf_120 hl (by decide) rfl (fun ls hl => ?_)
    obtain ⟨u45, h46, hf⟩ := g_bind hf
    refine bX9_slipsOf_122 X E gFuel _ _ _ _ _ u45 _ _ _ h46 hP hS (lv_sub hl [1, 2, 3, 4, 0] rfl) (fun H locs ls hP hS hl => ?_)
    have hl : lv_has ls 7 [(0, .ref (ga G 63)), (1, .int a1), (2, .int a2), (3, .int (S.2.2.1 9 (a1).toNatClampNeg))] := hl
    have hP : va_P (gD G) vwCl (WM G u45 ++ gF G) H := hP
    refine lv_aload_n hx hb dX9_slipsOf_195 rfl (lv_at hl 0 rfl) ?_
    refine lv_iload_n hx hb dX9_slipsOf_196 rfl (lv_at hl 1 rfl) ?_
    refine lv_iload_n hx hb dX9_slipsOf_197 rfl (lv_at hl 2 rfl) ?_
    refine lv_iconst (v := 3) hx hb dX9_slipsOf_198 (by decide) ?_
    refine lv_iload_n hx hb dX9_slipsOf_199 rfl (lv_at hl 3 rfl) ?_
    refine lv_bipush (v := 100) hx hb dX9_slipsOf_200 (by decide) ?_
    refine lv_isub hx hb dX9_slipsOf_202 ?_
    obtain ⟨u47, h48, hf⟩ := g_bind hf
    refine g_vv (rest := []) X E hP hS (tcX9_slips l G _ _ _ _ _ h48) (g_cwV X gX9_slipsOf_X9_slips rfl hdX9_slips ⟨Nat.le_of_ble_eq_true rfl, Nat.le_of_ble_eq_true rfl⟩) (rcM_model E hP) rfl hl.1 rfl (Nat.le_of_ble_eq_true rfl) dX9_slipsOf_203 ⟨Nat.le_refl _, Nat.le_refl _⟩ (fun H locs hP hS => ?_)
    refine lv_aload_n hx hb dX9_slipsOf_206 rfl (lv_at hl 0 rfl) ?_
    refine lv_iload_n hx hb dX9_slipsOf_207 rfl (lv_at hl 1 rfl) ?_
    refine lv_iload_n hx hb dX9_slipsOf_208 rfl (lv_at hl 2 rfl) ?_
    refine lv_iconst (v := 4) hx hb dX9_slipsOf_209 (by decide) ?_
    refine lv_iload_n hx hb dX9_slipsOf_210 rfl (lv_at hl 3 rfl) ?_
    refine lv_bipush (v := 100) hx hb dX9_slipsOf_211 (by decide) ?_
    refine lv_iadd hx hb dX9_slipsOf_213 ?_
    obtain ⟨u49, h50, hf⟩ := g_bind hf
    refine g_vv (rest := []) X E hP hS (tcX9_slips l G _ _ _ _ _ h50) (g_cwV X gX9_slipsOf_X9_slips rfl hdX9_slips ⟨Nat.le_of_ble_eq_true rfl, Nat.le_of_ble_eq_true rfl⟩) (rcM_model E hP) rfl hl.1 rfl (Nat.le_of_ble_eq_true rfl) dX9_slipsOf_214 ⟨Nat.le_refl _, Nat.le_refl _⟩ (fun H locs hP hS => ?_)
    refine lv_iload_n hx hb dX9_slipsOf_217 rfl (lv_at hl 2 rfl) ?_
    refine lv_if_ne (tgt := 234) hx hb dX9_slipsOf_218 (by decide) (fun c51 => ?_) (fun c51 => ?_)
    · have hf := g_iff hf c51
      obtain rfl := g_some hf
      exact g_rv X E hP hS dX9_slipsOf_234
    · have hf := g_ift hf c51
      refine lv_aload_n hx hb dX9_slipsOf_221 rfl (lv_at hl 0 rfl) ?_
      refine lv_iload_n hx hb dX9_slipsOf_222 rfl (lv_at hl 1 rfl) ?_
      refine lv_iload_n hx hb dX9_slipsOf_223 rfl (lv_at hl 2 rfl) ?_
      refine lv_iconst (v := 5) hx hb dX9_slipsOf_224 (by decide) ?_
      refine lv_aload_n hx hb dX9_slipsOf_225 rfl (lv_at hl 0 rfl) ?_
      refine ggM_10 X E hP inX9_slipsOf_X9 lkX9_slipsOf_0 dX9_slipsOf_226 ?_
      refine lv_iload_n hx hb dX9_slipsOf_229 rfl (lv_at hl 1 rfl) ?_
      obtain ⟨b52, hf⟩ := g_if hf
      refine giM_10 X E hP b52 dX9_slipsOf_230 ?_
      obtain ⟨u53, h54, hf⟩ := g_bind hf
      refine g_vv (rest := []) X E hP hS (tcX9_slips l G _ _ _ _ _ h54) (g_cwV X gX9_slipsOf_X9_slips rfl hdX9_slips ⟨Nat.le_of_ble_eq_true rfl, Nat.le_of_ble_eq_true rfl⟩) (rcM_model E hP) rfl hl.1 rfl (Nat.le_of_ble_eq_true rfl) dX9_slipsOf_231 ⟨Nat.le_refl _, Nat.le_refl _⟩ (fun H locs hP hS => ?_)
      obtain rfl := g_some hf
      exact g_rv X E hP hS dX9_slipsOf_234
