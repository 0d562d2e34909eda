def fX9_carries_9_30_3 : Nat → GS → Int32 → Int32 → Int32 → Option GS
  | 0, _, _, _, _ => none
  | fu + 1, S, v3, v4, v5 =>
    if (16 : Int32) ≤ v5 then
      some S
    else
      if v4 = 0 then
        if v5 < 0 ∨ 16 ≤ (v5).toNatClampNeg then none else
        if (v3 + v5) < 0 ∨ 140 ≤ (v3 + v5).toNatClampNeg then none else
        fX9_carries_9_30_3 fu (gU3 S 30 (v3 + v5).toNatClampNeg (S.2.2.1 9 (v5).toNatClampNeg)) v3 v4 (v5 + 1)
      else
        if (v3 + v5) < 0 ∨ 140 ≤ (v3 + v5).toNatClampNeg then none else
        if v5 < 0 ∨ 16 ≤ (v5).toNatClampNeg then none else
        fX9_carries_9_30_3 fu (gU3 S 9 (v5).toNatClampNeg (S.2.2.1 30 (v3 + v5).toNatClampNeg)) v3 v4 (v5 + 1)
set_option maxHeartbeats 4000000 in
set_option maxRecDepth 100000 in
theorem bX9_carries_9_30_3 {p : Program} {l : Launch} {e : Env} {s : State} {m : MethodId} {args : Array Value} {below : List Frame} {meth : Method} {c : Code} {Q : State → Prop} {G : GP} (X : GX p s m meth c args cX9_carries 6 (some .int) wsX9_carries RX9) (E : gE WM G s)  : ∀ (fu : Nat) (S : GS) (v3 : Int32) (v4 : Int32) (v5 : Int32) (R : GS) (H : Heap) (locs : List Loc) (ls : Array Slot) (_ : fX9_carries_9_30_3 fu S v3 v4 v5 = some R) (_ : va_P (gD G) vwCl (WM G S ++ gF G) H) (_ : va_S (gA G) s.heap H locs) (_ : lv_has ls 6 [(1, .ref (ga G 9)), (2, .ref (ga G 30)), (3, .int v3), (4, .int v4), (5, .int v5)]) (_ : ∀ (H : Heap) (locs : List Loc) (ls : Array Slot), va_P (gD G) vwCl (WM G R ++ gF G) H → va_S (gA G) s.heap H locs → lv_has ls 6 [(3, .int v3)] → W p l e (gR 0 0) s m args below meth c H locs 0 0 Q (F0 m 44 ls [])), W p l e (gR 0 0) s m args below meth c H locs 0 0 Q (F0 m 3 ls []) := by
  obtain ⟨hx, hb, -, -, hown, hts, -⟩ := id X
  intro fu
  induction fu with
  | zero =>
    intro S v3 v4 v5 R H locs ls hf
    cases (show (none : Option GS) = some R from hf)
  | succ fu ih =>
    intro S v3 v4 v5 R H locs ls hf hP hS hl kk
    rw [fX9_carries_9_30_3] at hf
    refine lv_iload hx hb dX9_carries_3 (lv_at hl 4 rfl) ?_
    refine lv_bipush (v := 16) hx hb dX9_carries_5 (by decide) ?_
    refine lv_icmp_ge (tgt := 44) hx hb dX9_carries_7 (by decide) (fun c1 => ?_) (fun c1 => ?_)
    · have hf := g_ift hf c1
      obtain rfl := g_some hf
      exact kk _ _ _ hP hS (lv_sub hl [2] rfl)
    · have hf := g_iff hf c1
      refine lv_iload hx hb dX9_carries_10 (lv_at hl 3 rfl) ?_
      refine lv_if_eq (tgt := 28) hx hb dX9_carries_12 (by decide) (fun c2 => ?_) (fun c2 => ?_)
      · have hf := g_ift hf c2
        refine lv_aload_n hx hb dX9_carries_28 rfl (lv_at hl 1 rfl) ?_
        refine lv_iload_n hx hb dX9_carries_29 rfl (lv_at hl 2 rfl) ?_
        refine lv_iload hx hb dX9_carries_30 (lv_at hl 4 rfl) ?_
        refine lv_iadd hx hb dX9_carries_32 ?_
        refine lv_aload_n hx hb dX9_carries_33 rfl (lv_at hl 0 rfl) ?_
        refine lv_iload hx hb dX9_carries_34 (lv_at hl 4 rfl) ?_
        obtain ⟨b3, hf⟩ := g_if hf
        refine giM_9 X E hP b3 dX9_carries_36 ?_
        obtain ⟨b4, hf⟩ := g_if hf
        refine gsM_30 X E hP hS b4 dX9_carries_37 (fun H locs hP hS => ?_)
        refine lv_iinc (v := (v5 + 1)) (lv' := [(5, .int (v5 + 1)), (1, .ref (ga G 9)), (2, .ref (ga G 30)), (3, .int v3), (4, .int v4)]) hx hb dX9_carries_38 hl (k := 4) rfl rfl (by decide) rfl (fun ls hl => ?_)
        refine lv_goto (tgt := 3) hx hb dX9_carries_41 (by decide) ?_
        exact ih _ _ _ _ _ _ _ _ hf hP hS (lv_sub hl [1, 2, 3, 4, 0] rfl) kk
      · have hf := g_iff hf c2
        refine lv_aload_n hx hb dX9_carries_15 rfl (lv_at hl 0 rfl) ?_
        refine lv_iload hx hb dX9_carries_16 (lv_at hl 4 rfl) ?_
        refine lv_aload_n hx hb dX9_carries_18 rfl (lv_at hl 1 rfl) ?_
        refine lv_iload_n hx hb dX9_carries_19 rfl (lv_at hl 2 rfl) ?_
        refine lv_iload hx hb dX9_carries_20 (lv_at hl 4 rfl) ?_
        refine lv_iadd hx hb dX9_carries_22 ?_
        obtain ⟨b5, hf⟩ := g_if hf
        refine giM_30 X E hP b5 dX9_carries_23 ?_
        obtain ⟨b6, hf⟩ := g_if hf
        refine gsM_9 X E hP hS b6 dX9_carries_24 (fun H locs hP hS => ?_)
        refine lv_goto (tgt := 38) hx hb dX9_carries_25 (by decide) ?_
        refine lv_iinc (v := (v5 + 1)) (lv' := [(5, .int (v5 + 1)), (1, .ref (ga G 9)), (2, .ref (ga G 30)), (3, .int v3), (4, .int v4)]) hx hb dX9_carries_38 hl (k := 4) rfl rfl (by decide) rfl (fun ls hl => ?_)
        refine lv_goto (tgt := 3) hx hb dX9_carries_41 (by decide) ?_
        exact ih _ _ _ _ _ _ _ _ hf hP hS (lv_sub hl [1, 2, 3, 4, 0] rfl) kk
def fX9_carries_9_30 (S : GS) (a1 : Int32) (a2 : Int32) : Option (Int32 × GS) :=
  (fX9_carries_9_30_3 gFuel S a1 a2 (0 : Int32)).bind fun u7 =>
  some ((a1 + (16 : Int32)), u7)
set_option maxHeartbeats 4000000 in
set_option maxRecDepth 100000 in
theorem tcX9_carries_9_30 (l : Launch) (G : GP) (S : GS) (a1 : Int32) (a2 : Int32) {R : (Int32 × GS)} (hf : fX9_carries_9_30 S a1 a2 = some R) : CI l yX9_carries wsX9_carries 0 0 [.ref (ga G 63), .ref (ga G 9), .ref (ga G 30), .int a1, .int a2] WM G S R.1 R.2 := by
  refine g_met RX9 (cc := cX9_carries) (nL := 6) (ret := (some .int)) (by decide) rfl rfl (Nat.le_of_ble_eq_true rfl) ?_
  intro p e s m below meth c ls X E hP hS hl
  have hl : lv_has ls 6 [(0, .ref (ga G 63)), (1, .ref (ga G 9)), (2, .ref (ga G 30)), (3, .int a1), (4, .int a2)] := hl
  obtain ⟨hx, hb, -, -, hown, hts, -⟩ := id X
  rw [fX9_carries_9_30] at hf
  refine lv_iconst (v := 0) hx hb dX9_carries_0 (by decide) ?_
  refine lv_istore (lv' := [(5, .int (0 : Int32)), (0, .ref (ga G 63)), (1, .ref (ga G 9)), (2, .ref (ga G 30)), (3, .int a1), (4, .int a2)]) hx hb dX9_carries_1 hl (by decide) rfl (fun ls hl => ?_)
  obtain ⟨u7, h8, hf⟩ := g_bind hf
  refine bX9_carries_9_30_3 X E gFuel _ _ _ _ u7 _ _ _ h8 hP hS (lv_sub hl [2, 3, 4, 5, 0] rfl) (fun H locs ls hP hS hl => ?_)
  have hl : lv_has ls 6 [(3, .int a1)] := hl
  have hP : va_P (gD G) vwCl (WM G u7 ++ gF G) H := hP
  refine lv_iload_n hx hb dX9_carries_44 rfl (lv_at hl 0 rfl) ?_
  refine lv_bipush (v := 16) hx hb dX9_carries_45 (by decide) ?_
  refine lv_iadd hx hb dX9_carries_47 ?_
  obtain rfl := g_some hf
  exact g_ri X E hP hS dX9_carries_48
def fX9_carries_10_30_3 : Nat → GS → Int32 → Int32 → Int32 → Option GS
  | 0, _, _, _, _ => none
  | fu + 1, S, v3, v4, v5 =>
    if (16 : Int32) ≤ v5 then
      some S
    else
      if v4 = 0 then
        if v5 < 0 ∨ 16 ≤ (v5).toNatClampNeg then none else
        if (v3 + v5) < 0 ∨ 140 ≤ (v3 + v5).toNatClampNeg then none else
        fX9_carries_10_30_3 fu (gU3 S 30 (v3 + v5).toNatClampNeg (S.2.2.1 10 (v5).toNatClampNeg)) v3 v4 (v5 + 1)
      else
        if (v3 + v5) < 0 ∨ 140 ≤ (v3 + v5).toNatClampNeg then none else
        if v5 < 0 ∨ 16 ≤ (v5).toNatClampNeg then none else
        fX9_carries_10_30_3 fu (gU3 S 10 (v5).toNatClampNeg (S.2.2.1 30 (v3 + v5).toNatClampNeg)) v3 v4 (v5 + 1)
set_option maxHeartbeats 4000000 in
set_option maxRecDepth 100000 in
theorem bX9_carries_10_30_3 {p : Program} {l : Launch} {e : Env} {s : State} {m : MethodId} {args : Array Value} {below : List Frame} {meth : Method} {c : Code} {Q : State → Prop} {G : GP} (X : GX p s m meth c args cX9_carries 6 (some .int) wsX9_carries RX9) (E : gE WM G s)  : ∀ (fu : Nat) (S : GS) (v3 : Int32) (v4 : Int32) (v5 : Int32) (R : GS) (H : Heap) (locs : List Loc) (ls : Array Slot) (_ : fX9_carries_10_30_3 fu S v3 v4 v5 = some R) (_ : va_P (gD G) vwCl (WM G S ++ gF G) H) (_ : va_S (gA G) s.heap H locs) (_ : lv_has ls 6 [(1, .ref (ga G 10)), (2, .ref (ga G 30)), (3, .int v3), (4, .int v4), (5, .int v5)]) (_ : ∀ (H : Heap) (locs : List Loc) (ls : Array Slot), va_P (gD G) vwCl (WM G R ++ gF G) H → va_S (gA G) s.heap H locs → lv_has ls 6 [(3, .int v3)] → W p l e (gR 0 0) s m args below meth c H locs 0 0 Q (F0 m 44 ls [])), W p l e (gR 0 0) s m args below meth c H locs 0 0 Q (F0 m 3 ls []) := by
  obtain ⟨hx, hb, -, -, hown, hts, -⟩ := id X
  intro fu
  induction fu with
  | zero =>
    intro S v3 v4 v5 R H locs ls hf
    cases (show (none : Option GS) = some R from hf)
  | succ fu ih =>
    intro S v3 v4 v5 R H locs ls hf hP hS hl kk
    rw [fX9_carries_10_30_3] at hf
    refine lv_iload hx hb dX9_carries_3 (lv_at hl 4 rfl) ?_
    refine lv_bipush (v := 16) hx hb dX9_carries_5 (by decide) ?_
    refine lv_icmp_ge (tgt := 44) hx hb dX9_carries_7 (by decide) (fun c1 => ?_) (fun c1 => ?_)
    · have hf := g_ift hf c1
      obtain rfl := g_some hf
      exact kk _ _ _ hP hS (lv_sub hl [2] rfl)
    · have hf := g_iff hf c1
      refine lv_iload hx hb dX9_carries_10 (lv_at hl 3 rfl) ?_
      refine lv_if_eq (tgt := 28) hx hb dX9_carries_12 (by decide) (fun c2 => ?_) (fun c2 => ?_)
      · have hf := g_ift hf c2
        refine lv_aload_n hx hb dX9_carries_28 rfl (lv_at hl 1 rfl) ?_
        refine lv_iload_n hx hb dX9_carries_29 rfl (lv_at hl 2 rfl) ?_
        refine lv_iload hx hb dX9_carries_30 (lv_at hl 4 rfl) ?_
        refine lv_iadd hx hb dX9_carries_32 ?_
        refine lv_aload_n hx hb dX9_carries_33 rfl (lv_at hl 0 rfl) ?_
        refine lv_iload hx hb dX9_carries_34 (lv_at hl 4 rfl) ?_
        obtain ⟨b3, hf⟩ := g_if hf
        refine giM_10 X E hP b3 dX9_carries_36 ?_
        obtain ⟨b4, hf⟩ := g_if hf
        refine gsM_30 X E hP hS b4 dX9_carries_37 (fun H locs hP hS => ?_)
        refine lv_iinc (v := (v5 + 1)) (lv' := [(5, .int (v5 + 1)), (1, .ref (ga G 10)), (2, .ref (ga G 30)), (3, .int v3), (4, .int v4)]) hx hb dX9_carries_38 hl (k := 4) rfl rfl (by decide) rfl (fun ls hl => ?_)
        refine lv_goto (tgt := 3) hx hb dX9_carries_41 (by decide) ?_
        exact ih _ _ _ _ _ _ _ _ hf hP hS (lv_sub hl [1, 2, 3, 4, 0] rfl) kk
      · have hf := g_iff hf c2
        refine lv_aload_n hx hb dX9_carries_15 rfl (lv_at hl 0 rfl) ?_
        refine lv_iload hx hb dX9_carries_16 (lv_at hl 4 rfl) ?_
        refine lv_aload_n hx hb dX9_carries_18 rfl (lv_at hl 1 rfl) ?_
        refine lv_iload_n hx hb dX9_carries_19 rfl (lv_at hl 2 rfl) ?_
        refine lv_iload hx hb dX9_carries_20 (lv_at hl 4 rfl) ?_
        refine lv_iadd hx hb dX9_carries_22 ?_
        obtain ⟨b5, hf⟩ := g_if hf
        refine giM_30 X E hP b5 dX9_carries_23 ?_
        obtain ⟨b6, hf⟩ := g_if hf
        refine gsM_10 X E hP hS b6 dX9_carries_24 (fun H locs hP hS => ?_)
        refine lv_goto (tgt := 38) hx hb dX9_carries_25 (by decide) ?_
        refine lv_iinc (v := (v5 + 1)) (lv' := [(5, .int (v5 + 1)), (1, .ref (ga G 10)), (2, .ref (ga G 30)), (3, .int v3), (4, .int v4)]) hx hb dX9_carries_38 hl (k := 4) rfl rfl (by decide) rfl (fun ls hl => ?_)
        refine lv_goto (tgt := 3) hx hb dX9_carries_41 (by decide) ?_
        exact ih _ _ _ _ _ _ _ _ hf hP hS (lv_sub hl [1, 2, 3, 4, 0] rfl) kk
def fX9_carries_10_30 (S : GS) (a1 : Int32) (a2 : Int32) : Option (Int32 × GS) :=
  (fX9_carries_10_30_3 gFuel S a1 a2 (0 : Int32)).bind fun u7 =>
  some ((a1 + (16 : Int32)), u7)
set_option maxHeartbeats 4000000 in
set_option maxRecDepth 100000 in
theorem tcX9_carries_10_30 (l : Launch) (G : GP) (S : GS) (a1 : Int32) (a2 : Int32) {R : (Int32 × GS)} (hf : fX9_carries_10_30 S a1 a2 = some R) : CI l yX9_carries wsX9_carries 0 0 [.ref (ga G 63), .ref (ga G 10), .ref (ga G 30), .int a1, .int a2] WM G S R.1 R.2 := by
  refine g_met RX9 (cc := cX9_carries) (nL := 6) (ret := (some .int)) (by decide) rfl rfl (Nat.le_of_ble_eq_true rfl) ?_
  intro p e s m below meth c ls X E hP hS hl
  have hl : lv_has ls 6 [(0, .ref (ga G 63)), (1, .ref (ga G 10)), (2, .ref (ga G 30)), (3, .int a1), (4, .int a2)] := hl
  obtain ⟨hx, hb, -, -, hown, hts, -⟩ := id X
  rw [fX9_carries_10_30] at hf
  refine lv_iconst (v := 0) hx hb dX9_carries_0 (by decide) ?_
  refine lv_istore (lv' := [(5, .int (0 : Int32)), (0, .ref (ga G 63)), (1, .ref (ga G 10)), (2, .ref (ga G 30)), (3, .int a1), (4, .int a2)]) hx hb dX9_carries_1 hl (by decide) rfl (fun ls hl => ?_)
  obtain ⟨u7, h8, hf⟩ := g_bind hf
  refine bX9_carries_10_30_3 X E gFuel _ _ _ _ u7 _ _ _ h8 hP hS (lv_sub hl [2, 3, 4, 5, 0] rfl) (fun H locs ls hP hS hl => ?_)
  have hl : lv_has ls 6 [(3, .int a1)] := hl
  have hP : va_P (gD G) vwCl (WM G u7 ++ gF G) H := hP
  refine lv_iload_n hx hb dX9_carries_44 rfl (lv_at hl 0 rfl) ?_
  refine lv_bipush (v := 16) hx hb dX9_carries_45 (by decide) ?_
  refine lv_iadd hx hb dX9_carries_47 ?_
  obtain rfl := g_some hf
  exact g_ri X E hP hS dX9_carries_48
def fX9_carries_11_30_3 : Nat → GS → Int32 → Int32 → Int32 → Option GS
  | 0, _, _, _, _ => none
  | fu + 1, S, v3, v4, v5 =>
    if (16 : Int32) ≤ v5 then
      some S
    else
      if v4 = 0 then
        if v5 < 0 ∨ 16 ≤ (v5).toNatClampNeg then none else
        if (v3 + v5) < 0 ∨ 140 ≤ (v3 + v5).toNatClampNeg then none else
        fX9_carries_11_30_3 fu (gU3 S 30 (v3 + v5).toNatClampNeg (S.2.2.1 11 (v5).toNatClampNeg)) v3 v4 (v5 + 1)
      else
        if (v3 + v5) < 0 ∨ 140 ≤ (v3 + v5).toNatClampNeg then none else
        if v5 < 0 ∨ 16 ≤ (v5).toNatClampNeg then none else
        fX9_carries_11_30_3 fu (gU3 S 11 (v5).toNatClampNeg (S.2.2.1 30 (v3 + v5).toNatClampNeg)) v3 v4 (v5 + 1)
set_option maxHeartbeats 4000000 in
set_option maxRecDepth 100000 in
theorem bX9_carries_11_30_3 {p : Program} {l : Launch} {e : Env} {s : State} {m : MethodId} {args : Array Value} {below : List Frame} {meth : Method} {c : Code} {Q : State → Prop} {G : GP} (X : GX p s m meth c args cX9_carries 6 (some .int) wsX9_carries RX9) (E : gE WM G s)  : ∀ (fu : Nat) (S : GS) (v3 : Int32) (v4 : Int32) (v5 : Int32) (R : GS) (H : Heap) (locs : List Loc) (ls : Array Slot) (_ : fX9_carries_11_30_3 fu S v3 v4 v5 = some R) (_ : va_P (gD G) vwCl (WM G S ++ gF G) H) (_ : va_S (gA G) s.heap H locs) (_ : lv_has ls 6 [(1, .ref (ga G 11)), (2, .ref (ga G 30)), (3, .int v3), (4, .int v4), (5, .int v5)]) (_ : ∀ (H : Heap) (locs : List Loc) (ls : Array Slot), va_P (gD G) vwCl (WM G R ++ gF G) H → va_S (gA G) s.heap H locs → lv_has ls 6 [(3, .int v3)] → W p l e (gR 0 0) s m args below meth c H locs 0 0 Q (F0 m 44 ls [])), W p l e (gR 0 0) s m args below meth c H locs 0 0 Q (F0 m 3 ls []) := by
  obtain ⟨hx, hb, -, -, hown, hts, -⟩ := id X
  intro fu
  induction fu with
  | zero =>
    intro S v3 v4 v5 R H locs ls hf
    cases (show (none : Option GS) = some R from hf)
  | succ fu ih =>
    intro S v3 v4 v5 R H locs ls hf hP hS hl kk
    rw [fX9_carries_11_30_3] at hf
    refine lv_iload hx hb dX9_carries_3 (lv_at hl 4 rfl) ?_
    refine lv_bipush (v := 16) hx hb dX9_carries_5 (by decide) ?_
    refine lv_icmp_ge (tgt := 44) hx hb dX9_carries_7 (by decide) (fun c1 => ?_) (fun c1 => ?_)
    · have hf := g_ift hf c1
      obtain rfl := g_some hf
      exact kk _ _ _ hP hS (lv_sub hl [2] rfl)
    · have hf := g_iff hf c1
      refine lv_iload hx hb dX9_carries_10 (lv_at hl 3 rfl) ?_
      refine lv_if_eq (tgt := 28) hx hb dX9_carries_12 (by decide) (fun c2 => ?_) (fun c2 => ?_)
      · have hf := g_ift hf c2
        refine lv_aload_n hx hb dX9_carries_28 rfl (lv_at hl 1 rfl) ?_
        refine lv_iload_n hx hb dX9_carries_29 rfl (lv_at hl 2 rfl) ?_
        refine lv_iload hx hb dX9_carries_30 (lv_at hl 4 rfl) ?_
        refine lv_iadd hx hb dX9_carries_32 ?_
        refine lv_aload_n hx hb dX9_carries_33 rfl (lv_at hl 0 rfl) ?_
        refine lv_iload hx hb dX9_carries_34 (lv_at hl 4 rfl) ?_
        obtain ⟨b3, hf⟩ := g_if hf
        refine giM_11 X E hP b3 dX9_carries_36 ?_
        obtain ⟨b4, hf⟩ := g_if hf
        refine gsM_30 X E hP hS b4 dX9_carries_37 (fun H locs hP hS => ?_)
        refine lv_iinc (v := (v5 + 1)) (lv' := [(5, .int (v5 + 1)), (1, .ref (ga G 11)), (2, .ref (ga G 30)), (3, .int v3), (4, .int v4)]) hx hb dX9_carries_38 hl (k := 4) rfl rfl (by decide) rfl (fun ls hl => ?_)
        refine lv_goto (tgt := 3) hx hb dX9_carries_41 (by decide) ?_
        exact ih _ _ _ _ _ _ _ _ hf hP hS (lv_sub hl [1, 2, 3, 4, 0] rfl) kk
      · have hf := g_iff hf c2
        refine lv_aload_n hx hb dX9_carries_15 rfl (lv_at hl 0 rfl) ?_
        refine lv_iload hx hb dX9_carries_16 (lv_at hl 4 rfl) ?_
        refine lv_aload_n hx hb dX9_carries_18 rfl (lv_at hl 1 rfl) ?_
        refine lv_iload_n hx hb dX9_carries_19 rfl (lv_at hl 2 rfl) ?_
        refine lv_iload hx hb dX9_carries_20 (lv_at hl 4 rfl) ?_
        refine lv_iadd hx hb dX9_carries_22 ?_
        obtain ⟨b5, hf⟩ := g_if hf
        refine giM_30 X E hP b5 dX9_carries_23 ?_
        obtain ⟨b6, hf⟩ := g_if hf
        refine gsM_11 X E hP hS b6 dX9_carries_24 (fun H locs hP hS => ?_)
        refine lv_goto (tgt := 38) hx hb dX9_carries_25 (by decide) ?_
        refine lv_iinc (v := (v5 + 1)) (lv' := [(5, .int (v5 + 1)), (1, .ref (ga G 11)), (2, .ref (ga G 30)), (3, .int v3), (4, .int v4)]) hx hb dX9_carries_38 hl (k := 4) rfl rfl (by decide) rfl (fun ls hl => ?_)
        refine lv_goto (tgt := 3) hx hb dX9_carries_41 (by decide) ?_
        exact ih _ _ _ _ _ _ _ _ hf hP hS (lv_sub hl [1, 2, 3, 4, 0] rfl) kk
def fX9_carries_11_30 (S : GS) (a1 : Int32) (a2 : Int32) : Option (Int32 × GS) :=
  (fX9_carries_11_30_3 gFuel S a1 a2 (0 : Int32)).bind fun u7 =>
  some ((a1 + (16 : Int32)), u7)
set_option maxHeartbeats 4000000 in
set_option maxRecDepth 100000 in
theorem tcX9_carries_11_30 (l : Launch) (G : GP) (S : GS) (a1 : Int32) (a2 : Int32) {R : (Int32 × GS)} (hf : fX9_carries_11_30 S a1 a2 = some R) : CI l yX9_carries wsX9_carries 0 0 [.ref (ga G 63), .ref (ga G 11), .ref (ga G 30), .int a1, .int a2] WM G S R.1 R.2 := by
  refine g_met RX9 (cc := cX9_carries) (nL := 6) (ret := (some .int)) (by decide) rfl rfl (Nat.le_of_ble_eq_true rfl) ?_
  intro p e s m below meth c ls X E hP hS hl
  have hl : lv_has ls 6 [(0, .ref (ga G 63)), (1, .ref (ga G 11)), (2, .ref (ga G 30)), (3, .int a1), (4, .int a2)] := hl
  obtain ⟨hx, hb, -, -, hown, hts, -⟩ := id X
  rw [fX9_carries_11_30] at hf
  refine lv_iconst (v := 0) hx hb dX9_carries_0 (by decide) ?_
  refine lv_istore (lv' := [(5, .int (0 : Int32)), (0, .ref (ga G 63)), (1, .ref (ga G 11)), (2, .ref (ga G 30)), (3, .int a1), (4, .int a2)]) hx hb dX9_carries_1 hl (by decide) rfl (fun ls hl => ?_)
  obtain ⟨u7, h8, hf⟩ := g_bind hf
  refine bX9_carries_11_30_3 X E gFuel _ _ _ _ u7 _ _ _ h8 hP hS (lv_sub hl [2, 3, 4, 5, 0] rfl) (fun H locs ls hP hS hl => ?_)
  have hl : lv_has ls 6 [(3, .int a1)] := hl
  have hP : va_P (gD G) vwCl (WM G u7 ++ gF G) H := hP
  refine lv_iload_n hx hb dX9_carries_44 rfl (lv_at hl 0 rfl) ?_
  refine lv_bipush (v := 16) hx hb dX9_carries_45 (by decide) ?_
  refine lv_iadd hx hb dX9_carries_47 ?_
  obtain rfl := g_some hf
  exact g_ri X E hP hS dX9_carries_48
def fX9_carries_12_30_3 : Nat → GS → Int32 → Int32 → Int32 → Option GS
  | 0, _, _, _, _ => none
  | fu + 1, S, v3, v4, v5 =>
    if (16 : Int32) ≤ v5 then
      some S
    else
      if v4 = 0 then
        if v5 < 0 ∨ 16 ≤ (v5).toNatClampNeg then none else
        if (v3 + v5) < 0 ∨ 140 ≤ (v3 + v5).toNatClampNeg then none else
        fX9_carries_12_30_3 fu (gU3 S 30 (v3 + v5).toNatClampNeg (S.2.2.1 12 (v5).toNatClampNeg)) v3 v4 (v5 + 1)
      else
        if (v3 + v5) < 0 ∨ 140 ≤ (v3 + v5).toNatClampNeg then none else
        if v5 < 0 ∨ 16 ≤ (v5).toNatClampNeg then none else
        fX9_carries_12_30_3 fu (gU3 S 12 (v5).toNatClampNeg (S.2.2.1 30 (v3 + v5).toNatClampNeg)) v3 v4 (v5 + 1)
set_option maxHeartbeats 4000000 in
set_option maxRecDepth 100000 in
theorem bX9_carries_12_30_3 {p : Program} {l : Launch} {e : Env} {s : State} {m : MethodId} {args : Array Value} {below : List Frame} {meth : Method} {c : Code} {Q : State → Prop} {G : GP} (X : GX p s m meth c args cX9_carries 6 (some .int) wsX9_carries RX9) (E : gE WM G s)  : ∀ (fu : Nat) (S : GS) (v3 : Int32) (v4 : Int32) (v5 : Int32) (R : GS) (H : Heap) (locs : List Loc) (ls : Array Slot) (_ : fX9_carries_12_30_3 fu S v3 v4 v5 = some R) (_ : va_P (gD G) vwCl (WM G S ++ gF G) H) (_ : va_S (gA G) s.heap H locs) (_ : lv_has ls 6 [(1, .ref (ga G 12)), (2, .ref (ga G 30)), (3, .int v3), (4, .int v4), (5, .int v5)]) (_ : ∀ (H : Heap) (locs : List Loc) (ls : Array Slot), va_P (gD G) vwCl (WM G R ++ gF G) H → va_S (gA G) s.heap H locs → lv_has ls 6 [(3, .int v3)] → W p l e (gR 0 0) s m args below meth c H locs 0 0 Q (F0 m 44 ls [])), W p l e (gR 0 0) s m args below meth c H locs 0 0 Q (F0 m 3 ls []) := by
  obtain ⟨hx, hb, -, -, hown, hts, -⟩ := id X
  intro fu
  induction fu with
  | zero =>
    intro S v3 v4 v5 R H locs ls hf
    cases (show (none : Option GS) = some R from hf)
  | succ fu ih =>
    intro S v3 v4 v5 R H locs ls hf hP hS hl kk
    rw [fX9_carries_12_30_3] at hf
    refine lv_iload hx hb dX9_carries_3 (lv_at hl 4 rfl) ?_
    refine lv_bipush (v := 16) hx hb dX9_carries_5 (by decide) ?_
    refine lv_icmp_ge (tgt := 44) hx hb dX9_carries_7 (by decide) (fun c1 => ?_) (fun c1 => ?_)
    · have hf := g_ift hf c1
      obtain rfl := g_some hf
      exact kk _ _ _ hP hS (lv_sub hl [2] rfl)
    · have hf := g_iff hf c1
      refine lv_iload hx hb dX9_carries_10 (lv_at hl 3 rfl) ?_
      refine lv_if_eq (tgt := 28) hx hb dX9_carries_12 (by decide) (fun c2 => ?_) (fun c2 => ?_)
      · have hf := g_ift hf c2
        refine lv_aload_n hx hb dX9_carries_28 rfl (lv_at hl 1 rfl) ?_
        refine lv_iload_n hx hb dX9_carries_29 rfl (lv_at hl 2 rfl) ?_
        refine lv_iload hx hb dX9_carries_30 (lv_at hl 4 rfl) ?_
        refine lv_iadd hx hb dX9_carries_32 ?_
        refine lv_aload_n hx hb dX9_carries_33 rfl (lv_at hl 0 rfl) ?_
        refine lv_iload hx hb dX9_carries_34 (lv_at hl 4 rfl) ?_
        obtain ⟨b3, hf⟩ := g_if hf
        refine giM_12 X E hP b3 dX9_carries_36 ?_
        obtain ⟨b4, hf⟩ := g_if hf
        refine gsM_30 X E hP hS b4 dX9_carries_37 (fun H locs hP hS => ?_)
        refine lv_iinc (v := (v5 + 1)) (lv' := [(5, .int (v5 + 1)), (1, .ref (ga G 12)), (2, .ref (ga G 30)), (3, .int v3), (4, .int v4)]) hx hb dX9_carries_38 hl (k := 4) rfl rfl (by decide) rfl (fun ls hl => ?_)
        refine lv_goto (tgt := 3) hx hb dX9_carries_41 (by decide) ?_
        exact ih _ _ _ _ _ _ _ _ hf hP hS (lv_sub hl [1, 2, 3, 4, 0] rfl) kk
      · have hf := g_iff hf c2
        refine lv_aload_n hx hb dX9_carries_15 rfl (lv_at hl 0 rfl) ?_
        refine lv_iload hx hb dX9_carries_16 (lv_at hl 4 rfl) ?_
        refine lv_aload_n hx hb dX9_carries_18 rfl (lv_at hl 1 rfl) ?_
        refine lv_iload_n hx hb dX9_carries_19 rfl (lv_at hl 2 rfl) ?_
        refine lv_iload hx hb dX9_carries_20 (lv_at hl 4 rfl) ?_
        refine lv_iadd hx hb dX9_carries_22 ?_
        obtain ⟨b5, hf⟩ := g_if hf
        refine giM_30 X E hP b5 dX9_carries_23 ?_
        obtain ⟨b6, hf⟩ := g_if hf
        refine gsM_12 X E hP hS b6 dX9_carries_24 (fun H locs hP hS => ?_)
        refine lv_goto (tgt := 38) hx hb dX9_carries_25 (by decide) ?_
        refine lv_iinc (v := (v5 + 1)) (lv' := [(5, .int (v5 + 1)), (1, .ref (ga G 12)), (2, .ref (ga G 30)), (3, .int v3), (4, .int v4)]) hx hb dX9_carries_38 hl (k := 4) rfl rfl (by decide) rfl (fun ls hl => ?_)
        refine lv_goto (tgt := 3) hx hb dX9_carries_41 (by decide) ?_
        exact ih _ _ _ _ _ _ _ _ hf hP hS (lv_sub hl [1, 2, 3, 4, 0] rfl) kk
def fX9_carries_12_30 (S : GS) (a1 : Int32) (a2 : Int32) : Option (Int32 × GS) :=
  (fX9_carries_12_30_3 gFuel S a1 a2 (0 : Int32)).bind fun u7 =>
  some ((a1 + (16 : Int32)), u7)
set_option maxHeartbeats 4000000 in
set_option maxRecDepth 100000 in
theorem tcX9_carries_12_30 (l : Launch) (G : GP) (S : GS) (a1 : Int32) (a2 : Int32) {R : (Int32 × GS)} (hf : fX9_carries_12_30 S a1 a2 = some R) : CI l yX9_carries wsX9_carries 0 0 [.ref (ga G 63), .ref (ga G 12), .ref (ga G 30), .int a1, .int a2] WM G S R.1 R.2 := by
  refine g_met RX9 (cc := cX9_carries) (nL := 6) (ret := (some .int)) (by decide) rfl rfl (Nat.le_of_ble_eq_true rfl) ?_
  intro p e s m below meth c ls X E hP hS hl
  have hl : lv_has ls 6 [(0, .ref (ga G 63)), (1, .ref (ga G 12)), (2, .ref (ga G 30)), (3, .int a1), (4, .int a2)] := hl
  obtain ⟨hx, hb, -, -, hown, hts, -⟩ := id X
  rw [fX9_carries_12_30] at hf
  refine lv_iconst (v := 0) hx hb dX9_carries_0 (by decide) ?_
  refine lv_istore (lv' := [(5, .int (0 : Int32)), (0, .ref (ga G 63)), (1, .ref (ga G 12)), (2, .ref (ga G 30)), (3, .int a1), (4, .int a2)]) hx hb dX9_carries_1 hl (by decide) rfl (fun ls hl => ?_)
  obtain ⟨u7, h8, hf⟩ := g_bind hf
  refine bX9_carries_12_30_3 X E gFuel _ _ _ _ u7 _ _ _ h8 hP hS (lv_sub hl [2, 3, 4, 5, 0] rfl) (fun H locs ls hP hS hl => ?_)
  have hl : lv_has ls 6 [(3, .int a1)] := hl
  have hP : va_P (gD G) vwCl (WM G u7 ++ gF G) H := hP
  refine lv_iload_n hx hb dX9_carries_44 rfl (lv_at hl 0 rfl) ?_
  refine lv_bipush (v := 16) hx hb dX9_carries_45 (by decide) ?_
  refine lv_iadd hx hb dX9_carries_47 ?_
  obtain rfl := g_some hf
  exact g_ri X E hP hS dX9_carries_48
def fX9_carries_13_30_3 : Nat → GS → Int32 → Int32 → Int32 → Option GS
  | 0, _, _, _, _ => none
  | fu + 1, S, v3, v4, v5 =>
    if (16 : Int32) ≤ v5 then
      some S
    else
      if v4 = 0 then
        if v5 < 0 ∨ 16 ≤ (v5).toNatClampNeg then none else
        if (v3 + v5) < 0 ∨ 140 ≤ (v3 + v5).toNatClampNeg then none else
        fX9_carries_13_30_3 fu (gU3 S 30 (v3 + v5).toNatClampNeg (S.2.2.1 13 (v5).toNatClampNeg)) v3 v4 (v5 + 1)
      else
        if (v3 + v5) < 0 ∨ 140 ≤ (v3 + v5).toNatClampNeg then none else
        if v5 < 0 ∨ 16 ≤ (v5).toNatClampNeg then none else
        fX9_carries_13_30_3 fu (gU3 S 13 (v5).toNatClampNeg (S.2.2.1 30 (v3 + v5).toNatClampNeg)) v3 v4 (v5 + 1)
set_option maxHeartbeats 4000000 in
set_option maxRecDepth 100000 in
theorem bX9_carries_13_30_3 {p : Program} {l : Launch} {e : Env} {s : State} {m : MethodId} {args : Array Value} {below : List Frame} {meth : Method} {c : Code} {Q : State → Prop} {G : GP} (X : GX p s m meth c args cX9_carries 6 (some .int) wsX9_carries RX9) (E : gE WM G s)  : ∀ (fu : Nat) (S : GS) (v3 : Int32) (v4 : Int32) (v5 : Int32) (R : GS) (H : Heap) (locs : List Loc) (ls : Array Slot) (_ : fX9_carries_13_30_3 fu S v3 v4 v5 = some R) (_ : va_P (gD G) vwCl (WM G S ++ gF G) H) (_ : va_S (gA G) s.heap H locs) (_ : lv_has ls 6 [(1, .ref (ga G 13)), (2, .ref (ga G 30)), (3, .int v3), (4, .int v4), (5, .int v5)]) (_ : ∀ (H : Heap) (locs : List Loc) (ls : Array Slot), va_P (gD G) vwCl (WM G R ++ gF G) H → va_S (gA G) s.heap H locs → lv_has ls 6 [(3, .int v3)] → W p l e (gR 0 0) s m args below meth c H locs 0 0 Q (F0 m 44 ls [])), W p l e (gR 0 0) s m args below meth c H locs 0 0 Q (F0 m 3 ls []) := by
  obtain ⟨hx, hb, -, -, hown, hts, -⟩ := id X
  intro fu
  induction fu with
  | zero =>
    intro S v3 v4 v5 R H locs ls hf
    cases (show (none : Option GS) = some R from hf)
  | succ fu ih =>
    intro S v3 v4 v5 R H locs ls hf hP hS hl kk
    rw [fX9_carries_13_30_3] at hf
    refine lv_iload hx hb dX9_carries_3 (lv_at hl 4 rfl) ?_
    refine lv_bipush (v := 16) hx hb dX9_carries_5 (by decide) ?_
    refine lv_icmp_ge (tgt := 44) hx hb dX9_carries_7 (by decide) (fun c1 => ?_) (fun c1 => ?_)
    · have hf := g_ift hf c1
      obtain rfl := g_some hf
      exact kk _ _ _ hP hS (lv_sub hl [2] rfl)
    · have hf := g_iff hf c1
      refine lv_iload hx hb dX9_carries_10 (lv_at hl 3 rfl) ?_
      refine lv_if_eq (tgt := 28) hx hb dX9_carries_12 (by decide) (fun c2 => ?_) (fun c2 => ?_)
      · have hf := g_ift hf c2
        refine lv_aload_n hx hb dX9_carries_28 rfl (lv_at hl 1 rfl) ?_
        refine lv_iload_n hx hb dX9_carries_29 rfl (lv_at hl 2 rfl) ?_
        refine lv_iload hx hb dX9_carries_30 (lv_at hl 4 rfl) ?_
        refine lv_iadd hx hb dX9_carries_32 ?_
        refine lv_aload_n hx hb dX9_carries_33 rfl (lv_at hl 0 rfl) ?_
        refine lv_iload hx hb dX9_carries_34 (lv_at hl 4 rfl) ?_
        obtain ⟨b3, hf⟩ := g_if hf
        refine giM_13 X E hP b3 dX9_carries_36 ?_
        obtain ⟨b4, hf⟩ := g_if hf
        refine gsM_30 X E hP hS b4 dX9_carries_37 (fun H locs hP hS => ?_)
        refine lv_iinc (v := (v5 + 1)) (lv' := [(5, .int (v5 + 1)), (1, .ref (ga G 13)), (2, .ref (ga G 30)), (3, .int v3), (4, .int v4)]) hx hb dX9_carries_38 hl (k := 4) rfl rfl (by decide) rfl (fun ls hl => ?_)
        refine lv_goto (tgt := 3) hx hb dX9_carries_41 (by decide) ?_
        exact ih _ _ _ _ _ _ _ _ hf hP hS (lv_sub hl [1, 2, 3, 4, 0] rfl) kk
      · have hf := g_iff hf c2
        refine lv_aload_n hx hb dX9_carries_15 rfl (lv_at hl 0 rfl) ?_
        refine lv_iload hx hb dX9_carries_16 (lv_at hl 4 rfl) ?_
        refine lv_aload_n hx hb dX9_carries_18 rfl (lv_at hl 1 rfl) ?_
        refine lv_iload_n hx hb dX9_carries_19 rfl (lv_at hl 2 rfl) ?_
        refine lv_iload hx hb dX9_carries_20 (lv_at hl 4 rfl) ?_
        refine lv_iadd hx hb dX9_carries_22 ?_
        obtain ⟨b5, hf⟩ := g_if hf
        refine giM_30 X E hP b5 dX9_carries_23 ?_
        obtain ⟨b6, hf⟩ := g_if hf
        refine gsM_13 X E hP hS b6 dX9_carries_24 (fun H locs hP hS => ?_)
        refine lv_goto (tgt := 38) hx hb dX9_carries_25 (by decide) ?_
        refine lv_iinc (v := (v5 + 1)) (lv' := [(5, .int (v5 + 1)), (1, .ref (ga G 13)), (2, .ref (ga G 30)), (3, .int v3), (4, .int v4)]) hx hb dX9_carries_38 hl (k := 4) rfl rfl (by decide) rfl (fun ls hl => ?_)
        refine lv_goto (tgt := 3) hx hb dX9_carries_41 (by decide) ?_
        exact ih _ _ _ _ _ _ _ _ hf hP hS (lv_sub hl [1, 2, 3, 4, 0] rfl) kk
def fX9_carries_13_30 (S : GS) (a1 : Int32) (a2 : Int32) : Option (Int32 × GS) :=
  (fX9_carries_13_30_3 gFuel S a1 a2 (0 : Int32)).bind fun u7 =>
  some ((a1 + (16 : Int32)), u7)
set_option maxHeartbeats 4000000 in
set_option maxRecDepth 100000 in
theorem tcX9_carries_13_30 (l : Launch) (G : GP) (S : GS) (a1 : Int32) (a2 : Int32) {R : (Int32 × GS)} (hf : fX9_carries_13_30 S a1 a2 = some R) : CI l yX9_carries wsX9_carries 0 0 [.ref (ga G 63), .ref (ga G 13), .ref (ga G 30), .int a1, .int a2] WM G S R.1 R.2 := by
  refine g_met RX9 (cc := cX9_carries) (nL := 6) (ret := (some .int)) (by decide) rfl rfl (Nat.le_of_ble_eq_true rfl) ?_
  intro p e s m below meth c ls X E hP hS hl
  have hl : lv_has ls 6 [(0, .ref (ga G 63)), (1, .ref (ga G 13)), (2, .ref (ga G 30)), (3, .int a1), (4, .int a2)] := hl
  obtain ⟨hx, hb, -, -, hown, hts, -⟩ := id X
  rw [fX9_carries_13_30] at hf
  refine lv_iconst (v := 0) hx hb dX9_carries_0 (by decide) ?_
  refine lv_istore (lv' := [(5, .int (0 : Int32)), (0, .ref (ga G 63)), (1, .ref (ga G 13)), (2, .ref (ga G 30)), (3, .int a1), (4, .int a2)]) hx hb dX9_carries_1 hl (by decide) rfl (fun ls hl => ?_)
  obtain ⟨u7, h8, hf⟩ := g_bind hf
  refine bX9_carries_13_30_3 X E gFuel _ _ _ _ u7 _ _ _ h8 hP hS (lv_sub hl [2, 3, 4, 5, 0] rfl) (fun H locs ls hP hS hl => ?_)
  have hl : lv_has ls 6 [(3, .int a1)] := hl
  have hP : va_P (gD G) vwCl (WM G u7 ++ gF G) H := hP
  refine lv_iload_n hx hb dX9_carries_44 rfl (lv_at hl 0 rfl) ?_
  refine lv_bipush (v := 16) hx hb dX9_carries_45 (by decide) ?_
  refine lv_iadd hx hb dX9_carries_47 ?_
  obtain rfl := g_some hf
  exact g_ri X E hP hS dX9_carries_48
def fX9_carries_14_30_3 : Nat → GS → Int32 → Int32 → Int32 → Option GS
  | 0, _, _, _, _ => none
  | fu + 1, S, v3, v4, v5 =>
    if (16 : Int32) ≤ v5 then
      some S
    else
      if v4 = 0 then
        if v5 < 0 ∨ 16 ≤ (v5).toNatClampNeg then none else
        if (v3 + v5) < 0 ∨ 140 ≤ (v3 + v5).toNatClampNeg then none else
        fX9_carries_14_30_3 fu (gU3 S 30 (v3 + v5).toNatClampNeg (S.2.2.1 14 (v5).toNatClampNeg)) v3 v4 (v5 + 1)
      else
        if (v3 + v5) < 0 ∨ 140 ≤ (v3 + v5).toNatClampNeg then none else
        if v5 < 0 ∨ 16 ≤ (v5).toNatClampNeg then none else
        fX9_carries_14_30_3 fu (gU3 S 14 (v5).toNatClampNeg (S.2.2.1 30 (v3 + v5).toNatClampNeg)) v3 v4 (v5 + 1)
set_option maxHeartbeats 4000000 in
set_option maxRecDepth 100000 in
theorem bX9_carries_14_30_3 {p : Program} {l : Launch} {e : Env} {s : State} {m : MethodId} {args : Array Value} {below : List Frame} {meth : Method} {c : Code} {Q : State → Prop} {G : GP} (X : GX p s m meth c args cX9_carries 6 (some .int) wsX9_carries RX9) (E : gE WM G s)  : ∀ (fu : Nat) (S : GS) (v3 : Int32) (v4 : Int32) (v5 : Int32) (R : GS) (H : Heap) (locs : List Loc) (ls : Array Slot) (_ : fX9_carries_14_30_3 fu S v3 v4 v5 = some R) (_ : va_P (gD G) vwCl (WM G S ++ gF G) H) (_ : va_S (gA G) s.heap H locs) (_ : lv_has ls 6 [(1, .ref (ga G 14)), (2, .ref (ga G 30)), (3, .int v3), (4, .int v4), (5, .int v5)]) (_ : ∀ (H : Heap) (locs : List Loc) (ls : Array Slot), va_P (gD G) vwCl (WM G R ++ gF G) H → va_S (gA G) s.heap H locs → lv_has ls 6 [(3, .int v3)] → W p l e (gR 0 0) s m args below meth c H locs 0 0 Q (F0 m 44 ls [])), W p l e (gR 0 0) s m args below meth c H locs 0 0 Q (F0 m 3 ls []) := by
  obtain ⟨hx, hb, -, -, hown, hts, -⟩ := id X
  intro fu
  induction fu with
  | zero =>
    intro S v3 v4 v5 R H locs ls hf
    cases (show (none : Option GS) = some R from hf)
  | succ fu ih =>
    intro S v3 v4 v5 R H locs ls hf hP hS hl kk
    rw [fX9_carries_14_30_3] at hf
    refine lv_iload hx hb dX9_carries_3 (lv_at hl 4 rfl) ?_
    refine lv_bipush (v := 16) hx hb dX9_carries_5 (by decide) ?_
    refine lv_icmp_ge (tgt := 44) hx hb dX9_carries_7 (by decide) (fun c1 => ?_) (fun c1 => ?_)
    · have hf := g_ift hf c1
      obtain rfl := g_some hf
      exact kk _ _ _ hP hS (lv_sub hl [2] rfl)
    · have hf := g_iff hf c1
      refine lv_iload hx hb dX9_carries_10 (lv_at hl 3 rfl) ?_
      refine lv_if_eq (tgt := 28) hx hb dX9_carries_12 (by decide) (fun c2 => ?_) (fun c2 => ?_)
      · have hf := g_ift hf c2
        refine lv_aload_n hx hb dX9_carries_28 rfl (lv_at hl 1 rfl) ?_
        refine lv_iload_n hx hb dX9_carries_29 rfl (lv_at hl 2 rfl) ?_
        refine lv_iload hx hb dX9_carries_30 (lv_at hl 4 rfl) ?_
        refine lv_iadd hx hb dX9_carries_32 ?_
        refine lv_aload_n hx hb dX9_carries_33 rfl (lv_at hl 0 rfl) ?_
        refine lv_iload hx hb dX9_carries_34 (lv_at hl 4 rfl) ?_
        obtain ⟨b3, hf⟩ := g_if hf
        refine giM_14 X E hP b3 dX9_carries_36 ?_
        obtain ⟨b4, hf⟩ := g_if hf
        refine gsM_30 X E hP hS b4 dX9_carries_37 (fun H locs hP hS => ?_)
        refine lv_iinc (v := (v5 + 1)) (lv' := [(5, .int (v5 + 1)), (1, .ref (ga G 14)), (2, .ref (ga G 30)), (3, .int v3), (4, .int v4)]) hx hb dX9_carries_38 hl (k := 4) rfl rfl (by decide) rfl (fun ls hl => ?_)
        refine lv_goto (tgt := 3) hx hb dX9_carries_41 (by decide) ?_
        exact ih _ _ _ _ _ _ _ _ hf hP hS (lv_sub hl [1, 2, 3, 4, 0] rfl) kk
      · have hf := g_iff hf c2
        refine lv_aload_n hx hb dX9_carries_15 rfl (lv_at hl 0 rfl) ?_
        refine lv_iload hx hb dX9_carries_16 (lv_at hl 4 rfl) ?_
        refine lv_aload_n hx hb dX9_carries_18 rfl (lv_at hl 1 rfl) ?_
        refine lv_iload_n hx hb dX9_carries_19 rfl (lv_at hl 2 rfl) ?_
        refine lv_iload hx hb dX9_carries_20 (lv_at hl 4 rfl) ?_
        refine lv_iadd hx hb dX9_carries_22 ?_
        obtain ⟨b5, hf⟩ := g_if hf
        refine giM_30 X E hP b5 dX9_carries_23 ?_
        obtain ⟨b6, hf⟩ := g_if hf
        refine gsM_14 X E hP hS b6 dX9_carries_24 (fun H locs hP hS => ?_)
        refine lv_goto (tgt := 38) hx hb dX9_carries_25 (by decide) ?_
        refine lv_iinc (v := (v5 + 1)) (lv' := [(5, .int (v5 + 1)), (1, .ref (ga G 14)), (2, .ref (ga G 30)), (3, .int v3), (4, .int v4)]) hx hb dX9_carries_38 hl (k := 4) rfl rfl (by decide) rfl (fun ls hl => ?_)
        refine lv_goto (tgt := 3) hx hb dX9_carries_41 (by decide) ?_
        exact ih _ _ _ _ _ _ _ _ hf hP hS (lv_sub hl [1, 2, 3, 4, 0] rfl) kk
def fX9_carries_14_30 (S : GS) (a1 : Int32) (a2 : Int32) : Option (Int32 × GS) :=
  (fX9_carries_14_30_3 gFuel S a1 a2 (0 : Int32)).bind fun u7 =>
  some ((a1 + (16 : Int32)), u7)
set_option maxHeartbeats 4000000 in
set_option maxRecDepth 100000 in
theorem tcX9_carries_14_30 (l : Launch) (G : GP) (S : GS) (a1 : Int32) (a2 : Int32) {R : (Int32 × GS)} (hf : fX9_carries_14_30 S a1 a2 = some R) : CI l yX9_carries wsX9_carries 0 0 [.ref (ga G 63), .ref (ga G 14), .ref (ga G 30), .int a1, .int a2] WM G S R.1 R.2 := by
  refine g_met RX9 (cc := cX9_carries) (nL := 6) (ret := (some .int)) (by decide) rfl rfl (Nat.le_of_ble_eq_true rfl) ?_
  intro p e s m below meth c ls X E hP hS hl
  have hl : lv_has ls 6 [(0, .ref (ga G 63)), (1, .ref (ga G 14)), (2, .ref (ga G 30)), (3, .int a1), (4, .int a2)] := hl
  obtain ⟨hx, hb, -, -, hown, hts, -⟩ := id X
  rw [fX9_carries_14_30] at hf
  refine lv_iconst (v := 0) hx hb dX9_carries_0 (by decide) ?_
  refine lv_istore (lv' := [(5, .int (0 : Int32)), (0, .ref (ga G 63)), (1, .ref (ga G 14)), (2, .ref (ga G 30)), (3, .int a1), (4, .int a2)]) hx hb dX9_carries_1 hl (by decide) rfl (fun ls hl => ?_)
  obtain ⟨u7, h8, hf⟩ := g_bind hf
  refine bX9_carries_14_30_3 X E gFuel _ _ _ _ u7 _ _ _ h8 hP hS (lv_sub hl [2, 3, 4, 5, 0] rfl) (fun H locs ls hP hS hl => ?_)
  have hl : lv_has ls 6 [(3, .int a1)] := hl
  have hP : va_P (gD G) vwCl (WM G u7 ++ gF G) H := hP
  refine lv_iload_n hx hb dX9_carries_44 rfl (lv_at hl 0 rfl) ?_
  refine lv_bipush (v := 16) hx hb dX9_carries_45 (by decide) ?_
  refine lv_iadd hx hb dX9_carries_47 ?_
  obtain rfl := g_some hf
  exact g_ri X E hP hS dX9_carries_48
def fX9_all_30 (S : GS) (a1 : Int32) : Option GS :=
  (fX9_carries_7_30 S (0 : Int32) a1).bind fun u1 =>
  (fX9_carries_8_30 u1.2 u1.1 a1).bind fun u3 =>
  (fX9_carries_9_30 u3.2 u3.1 a1).bind fun u5 =>
  (fX9_carries_10_30 u5.2 u5.1 a1).bind fun u7 =>
  (fX9_carries_11_30 u7.2 u7.1 a1).bind fun u9 =>
  (fX9_carries_12_30 u9.2 u9.1 a1).bind fun u11 =>
  (fX9_carries_13_30 u11.2 u11.1 a1).bind fun u13 =>
  (fX9_carries_14_30 u13.2 u13.1 a1).bind fun u15 =>
  if a1 = 0 then
    if u15.1 < 0 ∨ 140 ≤ (u15.1).toNatClampNeg then none else
    if (u15.1 + (1 : Int32)) < 0 ∨ 140 ≤ (u15.1 + (1 : Int32)).toNatClampNeg then none else
    gLet (gU3 (gU3 u15.2 30 (u15.1).toNatClampNeg (u15.2.1 0)) 30 (u15.1 + (1 : Int32)).toNatClampNeg ((gU3 u15.2 30 (u15.1).toNatClampNeg (u15.2.1 0)).1 1)) fun T20 =>
    if (u15.1 + (2 : Int32)) < 0 ∨ 140 ≤ (u15.1 + (2 : Int32)).toNatClampNeg then none else
    if (u15.1 + (3 : Int32)) < 0 ∨ 140 ≤ (u15.1 + (3 : Int32)).toNatClampNeg then none else
    gLet (gU3 (gU3 T20 30 (u15.1 + (2 : Int32)).toNatClampNeg (T20.1 2)) 30 (u15.1 + (3 : Int32)).toNatClampNeg ((gU3 T20 30 (u15.1 + (2 : Int32)).toNatClampNeg (T20.1 2)).1 3)) fun T24 =>
    if (u15.1 + (4 : Int32)) < 0 ∨ 140 ≤ (u15.1 + (4 : Int32)).toNatClampNeg then none else
    some (gU3 T24 30 (u15.1 + (4 : Int32)).toNatClampNeg (T24.1 4))
  else
    if u15.1 < 0 ∨ 140 ≤ (u15.1).toNatClampNeg then none else
    if (u15.1 + (1 : Int32)) < 0 ∨ 140 ≤ (u15.1 + (1 : Int32)).toNatClampNeg then none else
    gLet (gU1 (gU1 u15.2 0 (u15.2.2.2.1 30 (u15.1).toNatClampNeg)) 1 ((gU1 u15.2 0 (u15.2.2.2.1 30 (u15.1).toNatClampNeg)).2.2.1 30 (u15.1 + (1 : Int32)).toNatClampNeg)) fun T29 =>
    if (u15.1 + (2 : Int32)) < 0 ∨ 140 ≤ (u15.1 + (2 : Int32)).toNatClampNeg then none else
    if (u15.1 + (3 : Int32)) < 0 ∨ 140 ≤ (u15.1 + (3 : Int32)).toNatClampNeg then none else
    gLet (gU1 (gU1 T29 2 (T29.2.2.1 30 (u15.1 + (2 : Int32)).toNatClampNeg)) 3 ((gU1 T29 2 (T29.2.2.1 30 (u15.1 + (2 : Int32)).toNatClampNeg)).2.2.1 30 (u15.1 + (3 : Int32)).toNatClampNeg)) fun T33 =>
    if (u15.1 + (4 : Int32)) < 0 ∨ 140 ≤ (u15.1 + (4 : Int32)).toNatClampNeg then none else
    some (gU1 T33 4 (T33.2.2.1 30 (u15.1 + (4 : Int32)).toNatClampNeg))
set_option maxHeartbeats 4000000 in
set_option maxRecDepth 100000 in
theorem tcX9_all_30 (l : Launch) (G : GP) (S : GS) (a1 : Int32) {R : GS} (hf : fX9_all_30 S a1 = some R) : CV l yX9_all wsX9_all 1 25 [.ref (ga G 63), .ref (ga G 30), .int a1] WM G S R := by
  refine g_met RX9 (cc := cX9_all) (nL := 4) (ret := none) (by decide) rfl rfl (Nat.le_of_ble_eq_true rfl) ?_
  intro p e s m below meth c ls X E hP hS hl
  have hl : lv_has ls 4 [(0, .ref (ga G 63)), (1, .ref (ga G 30)), (2, .int a1)] := hl
  obtain ⟨hx, hb, -, -, hown, hts, -⟩ := id X
  rw [fX9_all_30] at hf
  refine lv_aload_n hx hb dX9_all_0 rfl (lv_at hl 0 rfl) ?_
  refine lv_aload_n hx hb dX9_all_1 rfl (lv_at hl 0 rfl) ?_
  refine ggM_7 X E hP inX9_all_X9 lkX9_all_0 dX9_all_2 ?_
  refine lv_aload_n hx hb dX9_all_5 rfl (lv_at hl 1 rfl) ?_
  refine lv_iconst (v := 0) hx hb dX9_all_6 (by decide) ?_
  refine lv_iload_n hx hb dX9_all_7 rfl (lv_at hl 2 rfl) ?_
  obtain ⟨u1, h2, hf⟩ := g_bind hf
  refine g_vi (rest := []) X E hP hS (tcX9_carries_7_30 l G _ _ _ h2) (g_cwV X gX9_all_X9_carries rfl hdX9_carries ⟨Nat.le_of_ble_eq_true rfl, Nat.le_of_ble_eq_true rfl⟩) (rcM_model E hP) rfl hl.1 rfl (Nat.le_of_ble_eq_true rfl) dX9_all_8 ⟨Nat.le_refl _, Nat.le_refl _⟩ (fun H locs hP hS => ?_)
  refine lv_istore_n (lv' := [(3, .int u1.1), (0, .ref (ga G 63)), (1, .ref (ga G 30)), (2, .int a1)]) hx hb dX9_all_11 rfl hl (by decide) rfl (fun ls hl => ?_)
  refine lv_aload_n hx hb dX9_all_12 rfl (lv_at hl 1 rfl) ?_
  refine lv_aload_n hx hb dX9_all_13 rfl (lv_at hl 1 rfl) ?_
  refine ggM_8 X E hP inX9_all_X9 lkX9_all_1 dX9_all_14 ?_
  refine lv_aload_n hx hb dX9_all_17 rfl (lv_at hl 2 rfl) ?_
  refine lv_iload_n hx hb dX9_all_18 rfl (lv_at hl 0 rfl) ?_
  refine lv_iload_n hx hb dX9_all_19 rfl (lv_at hl 3 rfl) ?_
  obtain ⟨u3, h4, hf⟩ := g_bind hf
  refine g_vi (rest := []) X E hP hS (tcX9_carries_8_30 l G _ _ _ h4) (g_cwV X gX9_all_X9_carries rfl hdX9_carries ⟨Nat.le_of_ble_eq_true rfl, Nat.le_of_ble_eq_true rfl⟩) (rcM_model E hP) rfl hl.1 rfl (Nat.le_of_ble_eq_true rfl) dX9_all_20 ⟨Nat.le_refl _, Nat.le_refl _⟩ (fun H locs hP hS => ?_)
  refine lv_istore_n (lv' := [(3, .int u3.1), (0, .ref (ga G 63)), (1, .ref (ga G 30)), (2, .int a1)]) hx hb dX9_all_23 rfl hl (by decide) rfl (fun ls hl => ?_)
  refine lv_aload_n hx hb dX9_all_24 rfl (lv_at hl 1 rfl) ?_
  refine lv_aload_n hx hb dX9_all_25 rfl (lv_at hl 1 rfl) ?_
  refine ggM_9 X E hP inX9_all_X9 lkX9_all_2 dX9_all_26 ?_
  refine lv_aload_n hx hb dX9_all_29 rfl (lv_at hl 2 rfl) ?_
  refine lv_iload_n hx hb dX9_all_30 rfl (lv_at hl 0 rfl) ?_
  refine lv_iload_n hx hb dX9_all_31 rfl (lv_at hl 3 rfl) ?_
  obtain ⟨u5, h6, hf⟩ := g_bind hf
  refine g_vi (rest := []) X E hP hS (tcX9_carries_9_30 l G _ _ _ h6) (g_cwV X gX9_all_X9_carries rfl hdX9_carries ⟨Nat.le_of_ble_eq_true rfl, Nat.le_of_ble_eq_true rfl⟩) (rcM_model E hP) rfl hl.1 rfl (Nat.le_of_ble_eq_true rfl) dX9_all_32 ⟨Nat.le_refl _, Nat.le_refl _⟩ (fun H locs hP hS => ?_)
  refine lv_istore_n (lv' := [(3, .int u5.1), (0, .ref (ga G 63)), (1, .ref (ga G 30)), (2, .int a1)]) hx hb dX9_all_35 rfl hl (by decide) rfl (fun ls hl => ?_)
  refine lv_aload_n hx hb dX9_all_36 rfl (lv_at hl 1 rfl) ?_
  refine lv_aload_n hx hb dX9_all_37 rfl (lv_at hl 1 rfl) ?_
  refine ggM_10 X E hP inX9_all_X9 lkX9_all_3 dX9_all_38 ?_
  refine lv_aload_n hx hb dX9_all_41 rfl (lv_at hl 2 rfl) ?_
  refine lv_iload_n hx hb dX9_all_42 rfl (lv_at hl 0 rfl) ?_
  refine lv_iload_n hx hb dX9_all_43 rfl (lv_at hl 3 rfl) ?_
  obtain ⟨u7, h8, hf⟩ := g_bind hf
  refine g_vi (rest := []) X E hP hS (tcX9_carries_10_30 l G _ _ _ h8) (g_cwV X gX9_all_X9_carries rfl hdX9_carries ⟨Nat.le_of_ble_eq_true rfl, Nat.le_of_ble_eq_true rfl⟩) (rcM_model E hP) rfl hl.1 rfl (Nat.le_of_ble_eq_true rfl) dX9_all_44 ⟨Nat.le_refl _, Nat.le_refl _⟩ (fun H locs hP hS => ?_)
  refine lv_istore_n (lv' := [(3, .int u7.1), (0, .ref (ga G 63)), (1, .ref (ga G 30)), (2, .int a1)]) hx hb dX9_all_47 rfl hl (by decide) rfl (fun ls hl => ?_)
  refine lv_aload_n hx hb dX9_all_48 rfl (lv_at hl 1 rfl) ?_
  refine lv_aload_n hx hb dX9_all_49 rfl (lv_at hl 1 rfl) ?_
  refine ggM_11 X E hP inX9_all_X9 lkX9_all_4 dX9_all_50 ?_
  refine lv_aload_n hx hb dX9_all_53 rfl (lv_at hl 2 rfl) ?_
  refine lv_iload_n hx hb dX9_all_54 rfl (lv_at hl 0 rfl) ?_
  refine lv_iload_n hx hb dX9_all_55 rfl (lv_at hl 3 rfl) ?_
  obtain ⟨u9, h10, hf⟩ := g_bind hf
  refine g_vi (rest := []) X E hP hS (tcX9_carries_11_30 l G _ _ _ h10) (g_cwV X gX9_all_X9_carries rfl hdX9_carries ⟨Nat.le_of_ble_eq_true rfl, Nat.le_of_ble_eq_true rfl⟩) (rcM_model E hP) rfl hl.1 rfl (Nat.le_of_ble_eq_true rfl) dX9_all_56 ⟨Nat.le_refl _, Nat.le_refl _⟩ (fun H locs hP hS => ?_)
  refine lv_istore_n (lv' := [(3, .int u9.1), (0, .ref (ga G 63)), (1, .ref (ga G 30)), (2, .int a1)]) hx hb dX9_all_59 rfl hl (by decide) rfl (fun ls hl => ?_)
  refine lv_aload_n hx hb dX9_all_60 rfl (lv_at hl 1 rfl) ?_
  refine lv_aload_n hx hb dX9_all_61 rfl (lv_at hl 1 rfl) ?_
  refine ggM_12 X E hP inX9_all_X9 lkX9_all_5 dX9_all_62 ?_
  refine lv_aload_n hx hb dX9_all_65 rfl (lv_at hl 2 rfl) ?_
  refine lv_iload_n hx hb dX9_all_66 rfl (lv_at hl 0 rfl) ?_
  refine lv_iload_n hx hb dX9_all_67 rfl (lv_at hl 3 rfl) ?_
  obtain ⟨u11, h12, hf⟩ := g_bind hf
  refine g_vi (rest := []) X E hP hS (tcX9_carries_12_30 l G _ _ _ h12) (g_cwV X gX9_all_X9_carries rfl hdX9_carries ⟨Nat.le_of_ble_eq_true rfl, Nat.le_of_ble_eq_true rfl⟩) (rcM_model E hP) rfl hl.1 rfl (Nat.le_of_ble_eq_true rfl) dX9_all_68 ⟨Nat.le_refl _, Nat.le_refl _⟩ (fun H locs hP hS => ?_)
  refine lv_istore_n (lv' := [(3, .int u11.1), (0, .ref (ga G 63)), (1, .ref (ga G 30)), (2, .int a1)]) hx hb dX9_all_71 rfl hl (by decide) rfl (fun ls hl => ?_)
  refine lv_aload_n hx hb dX9_all_72 rfl (lv_at hl 1 rfl) ?_
  refine lv_aload_n hx hb dX9_all_73 rfl (lv_at hl 1 rfl) ?_
  refine ggM_13 X E hP inX9_all_X9 lkX9_all_6 dX9_all_74 ?_
  refine lv_aload_n hx hb dX9_all_77 rfl (lv_at hl 2 rfl) ?_
  refine lv_iload_n hx hb dX9_all_78 rfl (lv_at hl 0 rfl) ?_
  refine lv_iload_n hx hb dX9_all_79 rfl (lv_at hl 3 rfl) ?_
  obtain ⟨u13, h14, hf⟩ := g_bind hf
  refine g_vi (rest := []) X E hP hS (tcX9_carries_13_30 l G _ _ _ h14) (g_cwV X gX9_all_X9_carries rfl hdX9_carries ⟨Nat.le_of_ble_eq_true rfl, Nat.le_of_ble_eq_true rfl⟩) (rcM_model E hP) rfl hl.1 rfl (Nat.le_of_ble_eq_true rfl) dX9_all_80 ⟨Nat.le_refl _, Nat.le_refl _⟩ (fun H locs hP hS => ?_)
  refine lv_istore_n (lv' := [(3, .int u13.1), (0, .ref (ga G 63)), (1, .ref (ga G 30)), (2, .int a1)]) hx hb dX9_all_83 rfl hl (by decide) rfl (fun ls hl => ?_)
  refine lv_aload_n hx hb dX9_all_84 rfl (lv_at hl 1 rfl) ?_
  refine lv_aload_n hx hb dX9_all_85 rfl (lv_at hl 1 rfl) ?_
  refine ggM_14 X E hP inX9_all_X9 lkX9_all_7 dX9_all_86 ?_
  refine lv_aload_n hx hb dX9_all_89 rfl (lv_at hl 2 rfl) ?_
  refine lv_iload_n hx hb dX9_all_90 rfl (lv_at hl 0 rfl) ?_
  refine lv_iload_n hx hb dX9_all_91 rfl (lv_at hl 3 rfl) ?_
  obtain ⟨u15, h16, hf⟩ := g_bind hf
  refine g_vi (rest := []) X E hP hS (tcX9_carries_14_30 l G _ _ _ h16) (g_cwV X gX9_all_X9_carries rfl hdX9_carries ⟨Nat.le_of_ble_eq_true rfl, Nat.le_of_ble_eq_true rfl⟩) (rcM_model E hP) rfl hl.1 rfl (Nat.le_of_ble_eq_true rfl) dX9_all_92 ⟨Nat.le_refl _, Nat.le_refl _⟩ (fun H locs hP hS => ?_)
  refine lv_istore_n (lv' := [(3, .int u15.1), (0, .ref (ga G 63)), (1, .ref (ga G 30)), (2, .int a1)]) hx hb dX9_all_95 rfl hl (by decide) rfl (fun ls hl => ?_)
  refine lv_iload_n hx hb dX9_all_96 rfl (lv_at hl 3 rfl) ?_
  refine lv_if_eq (tgt := 146) hx hb dX9_all_97 (by decide) (fun c17 => ?_) (fun c17 => ?_)
  · have hf := g_ift hf c17
    refine lv_aload_n hx hb dX9_all_146 rfl (lv_at hl 2 rfl) ?_
    refine lv_iload_n hx hb dX9_all_147 rfl (lv_at hl 0 rfl) ?_
    refine lv_aload_n hx hb dX9_all_148 rfl (lv_at hl 1 rfl) ?_
    refine ggM_0 X E hP inX9_all_X9 lkX9_all_8 dX9_all_149 ?_
    obtain ⟨b18, hf⟩ := g_if hf
    refine gsM_30 X E hP hS b18 dX9_all_152 (fun H locs hP hS => ?_)
    refine lv_aload_n hx hb dX9_all_153 rfl (lv_at hl 2 rfl) ?_
    refine lv_iload_n hx hb dX9_all_154 rfl (lv_at hl 0 rfl) ?_
    refine lv_iconst (v := 1) hx hb dX9_all_155 (by decide) ?_
    refine lv_iadd hx hb dX9_all_156 ?_
    refine lv_aload_n hx hb dX9_all_157 rfl (lv_at hl 1 rfl) ?_
    refine ggM_1 X E hP inX9_all_X9 lkX9_all_9 dX9_all_158 ?_
    obtain ⟨b19, hf⟩ := g_if hf
    refine gsM_30 X E hP hS b19 dX9_all_161 (fun H locs hP hS => ?_)
    obtain ⟨T20, e21, hf⟩ := g_let hf
    rw [← e21] at hP
    refine lv_aload_n hx hb dX9_all_162 rfl (lv_at hl 2 rfl) ?_
    refine lv_iload_n hx hb dX9_all_163 rfl (lv_at hl 0 rfl) ?_
    refine lv_iconst (v := 2) hx hb dX9_all_164 (by decide) ?_
    refine lv_iadd hx hb dX9_all_165 ?_
    refine lv_aload_n hx hb dX9_all_166 rfl (lv_at hl 1 rfl) ?_
    refine ggM_2 X E hP inX9_all_X9 lkX9_all_10 dX9_all_167 ?_
    obtain ⟨b22, hf⟩ := g_if hf
    refine gsM_30 X E hP hS b22 dX9_all_170 (fun H locs hP hS => ?_)
    refine lv_aload_n hx hb dX9_all_171 rfl (lv_at hl 2 rfl) ?_
    refine lv_iload_n hx hb dX9_all_172 rfl (lv_at hl 0 rfl) ?_
    refine lv_iconst (v := 3) hx hb dX9_all_173 (by decide) ?_
    refine lv_iadd hx hb dX9_all_174 ?_
    refine lv_aload_n hx hb dX9_all_175 rfl (lv_at hl 1 rfl) ?_
    refine ggM_3 X E hP inX9_all_X9 lkX9_all_11 dX9_all_176 ?_
    obtain ⟨b23, hf⟩ := g_if hf
    refine gsM_30 X E hP hS b23 dX9_all_179 (fun H locs hP hS => ?_)
    obtain ⟨T24, e25, hf⟩ := g_let hf
    rw [← e25] at hP
    refine lv_aload_n hx hb dX9_all_180 rfl (lv_at hl 2 rfl) ?_
    refine lv_iload_n hx hb dX9_all_181 rfl (lv_at hl 0 rfl) ?_
    refine lv_iconst (v := 4) hx hb dX9_all_182 (by decide) ?_
    refine lv_iadd hx hb dX9_all_183 ?_
    refine lv_aload_n hx hb dX9_all_184 rfl (lv_at hl 1 rfl) ?_
    refine ggM_4 X E hP inX9_all_X9 lkX9_all_12 dX9_all_185 ?_
    obtain ⟨b26, hf⟩ := g_if hf
    refine gsM_30 X E hP hS b26 dX9_all_188 (fun H locs hP hS => ?_)
    obtain rfl := g_some hf
    exact g_rv X E hP hS dX9_all_189
  · have hf := g_iff hf c17
    refine lv_aload_n hx hb dX9_all_100 rfl (lv_at hl 1 rfl) ?_
    refine lv_aload_n hx hb dX9_all_101 rfl (lv_at hl 2 rfl) ?_
    refine lv_iload_n hx hb dX9_all_102 rfl (lv_at hl 0 rfl) ?_
    obtain ⟨b27, hf⟩ := g_if hf
    refine giM_30 X E hP b27 dX9_all_103 ?_
    refine gpM_0 X E hP hS inX9_all_X9 lkX9_all_8 dX9_all_104 (fun H locs hP hS => ?_)
    refine lv_aload_n hx hb dX9_all_107 rfl (lv_at hl 1 rfl) ?_
    refine lv_aload_n hx hb dX9_all_108 rfl (lv_at hl 2 rfl) ?_
    refine lv_iload_n hx hb dX9_all_109 rfl (lv_at hl 0 rfl) ?_
    refine lv_iconst (v := 1) hx hb dX9_all_110 (by decide) ?_
    refine lv_iadd hx hb dX9_all_111 ?_
    obtain ⟨b28, hf⟩ := g_if hf
    refine giM_30 X E hP b28 dX9_all_112 ?_
    refine gpM_1 X E hP hS inX9_all_X9 lkX9_all_9 dX9_all_113 (fun H locs hP hS => ?_)
    obtain ⟨T29, e30, hf⟩ := g_let hf
    rw [← e30] at hP
    refine lv_aload_n hx hb dX9_all_116 rfl (lv_at hl 1 rfl) ?_
    refine lv_aload_n hx hb dX9_all_117 rfl (lv_at hl 2 rfl) ?_
    refine lv_iload_n hx hb dX9_all_118 rfl (lv_at hl 0 rfl) ?_
    refine lv_iconst (v := 2) hx hb dX9_all_119 (by decide) ?_
    refine lv_iadd hx hb dX9_all_120 ?_
    obtain ⟨b31, hf⟩ := g_if hf
    refine giM_30 X E hP b31 dX9_all_121 ?_
    refine gpM_2 X E hP hS inX9_all_X9 lkX9_all_10 dX9_all_122 (fun H locs hP hS => ?_)
    refine lv_aload_n hx hb dX9_all_125 rfl (lv_at hl 1 rfl) ?_
    refine lv_aload_n hx hb dX9_all_126 rfl (lv_at hl 2 rfl) ?_
    refine lv_iload_n hx hb dX9_all_127 rfl (lv_at hl 0 rfl) ?_
    refine lv_iconst (v := 3) hx hb dX9_all_128 (by decide) ?_
    refine lv_iadd hx hb dX9_all_129 ?_
    obtain ⟨b32, hf⟩ := g_if hf
    refine giM_30 X E hP b32 dX9_all_130 ?_
    refine gpM_3 X E hP hS inX9_all_X9 lkX9_all_11 dX9_all_131 (fun H locs hP hS => ?_)
    obtain ⟨T33, e34, hf⟩ := g_let hf
    rw [← e34] at hP
    refine lv_aload_n hx hb dX9_all_134 rfl (lv_at hl 1 rfl) ?_
    refine lv_aload_n hx hb dX9_all_135 rfl (lv_at hl 2 rfl) ?_
    refine lv_iload_n hx hb dX9_all_136 rfl (lv_at hl 0 rfl) ?_
    refine lv_iconst (v := 4) hx hb dX9_all_137 (by decide) ?_
    refine lv_iadd hx hb dX9_all_138 ?_
    obtain ⟨b35, hf⟩ := g_if hf
    refine giM_30 X E hP b35 dX9_all_139 ?_
    refine gpM_4 X E hP hS inX9_all_X9 lkX9_all_12 dX9_all_140 (fun H locs hP hS => ?_)
    refine lv_goto (tgt := 189) hx hb dX9_all_143 (by decide) ?_
    obtain rfl := g_some hf
    exact g_rv X E hP hS dX9_all_189
theorem lkX9_image_0 : Cond.fieldLink RX9 295 RX9 "isKept" "Z" ∈ wsX9_image := by decide +kernel
theorem lkX9_image_1 : Cond.fieldLink RX9 81 RX9 "kept" "[I" ∈ wsX9_image := by decide +kernel
theorem lkX9_image_2 : Cond.fieldLink RX9 91 RX9 "many" "I" ∈ wsX9_image := by decide +kernel
theorem inX9_image_X9 : ∀ w ∈ wsX90, w ∈ wsX9_image := by decide +kernel
def fX9_image (S : GS)  : Option (Int32 × GS) :=
  (fX9_all_30 (gU1 S 39 (1 : Int32)) (0 : Int32)).bind fun u1 =>
  some ((u1.1 0), u1)
set_option maxHeartbeats 4000000 in
set_option maxRecDepth 100000 in
theorem tcX9_image (l : Launch) (G : GP) (S : GS)  {R : (Int32 × GS)} (hf : fX9_image S  = some R) : CI l yX9_image wsX9_image 2 48 [.ref (ga G 63)] WM G S R.1 R.2 := by
  refine g_met RX9 (cc := cX9_image) (nL := 1) (ret := (some .int)) (by decide) rfl rfl (Nat.le_of_ble_eq_true rfl) ?_
  intro p e s m below meth c ls X E hP hS hl
  have hl : lv_has ls 1 [(0, .ref (ga G 63))] := hl
  obtain ⟨hx, hb, -, -, hown, hts, -⟩ := id X
  rw [fX9_image] at hf
  refine lv_aload_n hx hb dX9_image_0 rfl (lv_at hl 0 rfl) ?_
  refine lv_iconst (v := 1) hx hb dX9_image_1 (by decide) ?_
  refine gpM_39 X E hP hS inX9_image_X9 lkX9_image_0 rfl rfl dX9_image_2 (fun H locs hP hS => ?_)
  refine lv_aload_n hx hb dX9_image_5 rfl (lv_at hl 0 rfl) ?_
  refine lv_aload_n hx hb dX9_image_6 rfl (lv_at hl 0 rfl) ?_
  refine ggM_30 X E hP inX9_image_X9 lkX9_image_1 dX9_image_7 ?_
  refine lv_iconst (v := 0) hx hb dX9_image_10 (by decide) ?_
  obtain ⟨u1, h2, hf⟩ := g_bind hf
  refine g_vv (rest := []) X E hP hS (tcX9_all_30 l G _ _ h2) (g_cwV X gX9_image_X9_all rfl hdX9_all ⟨Nat.le_of_ble_eq_true rfl, Nat.le_of_ble_eq_true rfl⟩) (rcM_model E hP) rfl hl.1 rfl (Nat.le_of_ble_eq_true rfl) dX9_image_11 ⟨Nat.le_refl _, Nat.le_refl _⟩ (fun H locs hP hS => ?_)
  refine lv_aload_n hx hb dX9_image_14 rfl (lv_at hl 0 rfl) ?_
  refine ggM_0 X E hP inX9_image_X9 lkX9_image_2 dX9_image_15 ?_
  obtain rfl := g_some hf
  exact g_ri X E hP hS dX9_image_18
theorem lkX9_restore_0 : Cond.fieldLink RX9 295 RX9 "isKept" "Z" ∈ wsX9_restore := by decide +kernel
theorem lkX9_restore_1 : Cond.fieldLink RX9 81 RX9 "kept" "[I" ∈ wsX9_restore := by decide +kernel
theorem lkX9_restore_2 : Cond.fieldLink RX9 91 RX9 "many" "I" ∈ wsX9_restore := by decide +kernel
theorem inX9_restore_X9 : ∀ w ∈ wsX90, w ∈ wsX9_restore := by decide +kernel
def fX9_restore (S : GS)  : Option (Int32 × GS) :=
  if (S.1 39) = 0 then
    (fX9_no S (-6 : Int32)).bind fun u6 =>
    some (u6.1, u6.2)
  else
    (fX9_all_30 S (1 : Int32)).bind fun u2 =>
    (fX9_forgets u2).bind fun u4 =>
    some ((u4.1 0), u4)
set_option maxHeartbeats 4000000 in
set_option maxRecDepth 100000 in
theorem tcX9_restore (l : Launch) (G : GP) (S : GS)  {R : (Int32 × GS)} (hf : fX9_restore S  = some R) : CI l yX9_restore wsX9_restore 2 48 [.ref (ga G 63)] WM G S R.1 R.2 := by
  refine g_met RX9 (cc := cX9_restore) (nL := 1) (ret := (some .int)) (by decide) rfl rfl (Nat.le_of_ble_eq_true rfl) ?_
  intro p e s m below meth c ls X E hP hS hl
  have hl : lv_has ls 1 [(0, .ref (ga G 63))] := hl
  obtain ⟨hx, hb, -, -, hown, hts, -⟩ := id X
  rw [fX9_restore] at hf
  refine lv_aload_n hx hb dX9_restore_0 rfl (lv_at hl 0 rfl) ?_
  refine ggM_39 X E hP inX9_restore_X9 lkX9_restore_0 dX9_restore_1 ?_
  refine lv_if_ne (tgt := 14) hx hb dX9_restore_4 (by decide) (fun c1 => ?_) (fun c1 => ?_)
  · have hf := g_iff hf c1
    refine lv_aload_n hx hb dX9_restore_14 rfl (lv_at hl 0 rfl) ?_
    refine lv_aload_n hx hb dX9_restore_15 rfl (lv_at hl 0 rfl) ?_
    refine ggM_30 X E hP inX9_restore_X9 lkX9_restore_1 dX9_restore_16 ?_
    refine lv_iconst (v := 1) hx hb dX9_restore_19 (by decide) ?_
    obtain ⟨u2, h3, hf⟩ := g_bind hf
    refine g_vv (rest := []) X E hP hS (tcX9_all_30 l G _ _ h3) (g_cwV X gX9_restore_X9_all rfl hdX9_all ⟨Nat.le_of_ble_eq_true rfl, Nat.le_of_ble_eq_true rfl⟩) (rcM_model E hP) rfl hl.1 rfl (Nat.le_of_ble_eq_true rfl) dX9_restore_20 ⟨Nat.le_refl _, Nat.le_refl _⟩ (fun H locs hP hS => ?_)
    refine lv_aload_n hx hb dX9_restore_23 rfl (lv_at hl 0 rfl) ?_
    obtain ⟨u4, h5, hf⟩ := g_bind hf
    refine g_vv (rest := []) X E hP hS (tcX9_forgets l G _  h5) (g_cwV X gX9_restore_X9_forgets rfl hdX9_forgets ⟨Nat.le_of_ble_eq_true rfl, Nat.le_of_ble_eq_true rfl⟩) (rcM_model E hP) rfl hl.1 rfl (Nat.le_of_ble_eq_true rfl) dX9_restore_24 ⟨Nat.le_refl _, Nat.le_refl _⟩ (fun H locs hP hS => ?_)
    refine lv_aload_n hx hb dX9_restore_27 rfl (lv_at hl 0 rfl) ?_
    refine ggM_0 X E hP inX9_restore_X9 lkX9_restore_2 dX9_restore_28 ?_
    obtain rfl := g_some hf
    exact g_ri X E hP hS dX9_restore_31
  · have hf := g_ift hf c1
    refine lv_aload_n hx hb dX9_restore_7 rfl (lv_at hl 0 rfl) ?_
    refine lv_bipush (v := -6) hx hb dX9_restore_8 (by decide) ?_
    obtain ⟨u6, h7, hf⟩ := g_bind hf
    refine g_vi (rest := []) X E hP hS (tcX9_no l G _ _ h7) (g_cwV X gX9_restore_X9_no rfl hdX9_no ⟨Nat.le_of_ble_eq_true rfl, Nat.le_of_ble_eq_true rfl⟩) (rcM_model E hP) rfl hl.1 rfl (Nat.le_of_ble_eq_true rfl) dX9_restore_10 ⟨Nat.le_refl _, Nat.le_refl _⟩ (fun H locs hP hS => ?_)
    obtain rfl := g_some hf
    exact g_ri X E hP hS dX9_restore_13
theorem lkX9_status_0 : Cond.fieldLink RX9 91 RX9 "many" "I" ∈ wsX9_status := by decide +kernel
theorem lkX9_status_1 : Cond.fieldLink RX9 134 RX9 "start" "I" ∈ wsX9_status := by decide +kernel
theorem lkX9_status_2 : Cond.fieldLink RX9 7 RX9 "hair" "I" ∈ wsX9_status := by decide +kernel
theorem lkX9_status_3 : Cond.fieldLink RX9 13 RX9 "fine" "I" ∈ wsX9_status := by decide +kernel
theorem lkX9_status_4 : Cond.fieldLink RX9 16 RX9 "seed" "I" ∈ wsX9_status := by decide +kernel
theorem lkX9_status_5 : Cond.fieldLink RX9 279 RX9 "ran" "I" ∈ wsX9_status := by decide +kernel
theorem lkX9_status_6 : Cond.fieldLink RX9 22 RX9 "refused" "[I" ∈ wsX9_status := by decide +kernel
theorem inX9_status_X9 : ∀ w ∈ wsX90, w ∈ wsX9_status := by decide +kernel
def fX9_status_L22 (S : GS) (v1 : Int32) : Option Int32 :=
  if v1 = (0 : Int32) then
    some (S.1 0)
  else if v1 = (1 : Int32) then
    (fX9_yards S (0 : Int32) (S.1 0)).bind fun u4 =>
    some u4
  else if v1 = (2 : Int32) then
    some (S.1 1)
  else if v1 = (3 : Int32) then
    some (S.1 2)
  else if v1 = (4 : Int32) then
    some (S.1 3)
  else if v1 = (5 : Int32) then
    some (S.1 4)
  else if v1 = (6 : Int32) then
    some (S.1 38)
  else some (-1 : Int32)
set_option maxHeartbeats 4000000 in
set_option maxRecDepth 100000 in
theorem bX9_status_L22 {p : Program} {l : Launch} {e : Env} {s : State} {m : MethodId} {args : Array Value} {below : List Frame} {meth : Method} {c : Code} {G : GP} (X : GX p s m meth c args cX9_status 2 (some .int) wsX9_status RX9) (E : gE WM G s) (S : GS) (v1 : Int32) (R : Int32) (H : Heap) (locs : List Loc) (ls : Array Slot) (hf : fX9_status_L22 S v1 = some R) (hP : va_P (gD G) vwCl (WM G S ++ gF G) H) (hS : va_S (gA G) s.heap H locs) (hl : lv_has ls 2 [(0, .ref (ga G 63)), (1, .int v1)]) : W p l e (gR 1 24) s m args below meth c H locs 0 0 (MQ below (gQi WM G R S) args s 0 0 (gA G)) (F0 m 22 ls []) := by
  obtain ⟨hx, hb, -, -, hown, hts, -⟩ := id X
  rw [fX9_status_L22] at hf
  refine lv_iload_n hx hb dX9_status_22 rfl (lv_at hl 1 rfl) ?_
  by_cases c2 : v1 = (0 : Int32)
  · have hf := g_ift hf c2
    refine g_tin (k := (0 : Int32)) (off := 41) (tgt := 64) hx hb dX9_status_23 c2 (by decide) ?_
    refine lv_aload_n hx hb dX9_status_64 rfl (lv_at hl 0 rfl) ?_
    refine ggM_0 X E hP inX9_status_X9 lkX9_status_0 dX9_status_65 ?_
    obtain rfl := g_some hf
    exact g_ri X E hP hS dX9_status_68
  have hf := g_iff hf c2
  by_cases c3 : v1 = (1 : Int32)
  · have hf := g_ift hf c3
    refine g_tin (k := (1 : Int32)) (off := 46) (tgt := 69) hx hb dX9_status_23 c3 (by decide) ?_
    refine lv_aload_n hx hb dX9_status_69 rfl (lv_at hl 0 rfl) ?_
    refine lv_iconst (v := 0) hx hb dX9_status_70 (by decide) ?_
    refine lv_aload_n hx hb dX9_status_71 rfl (lv_at hl 0 rfl) ?_
    refine ggM_0 X E hP inX9_status_X9 lkX9_status_0 dX9_status_72 ?_
    obtain ⟨u4, h5, hf⟩ := g_bind hf
    refine g_vi (rest := []) X E hP hS (tcX9_yards l G _ _ _ h5) (g_cwV X gX9_status_X9_yards rfl hdX9_yards ⟨Nat.le_of_ble_eq_true rfl, Nat.le_of_ble_eq_true rfl⟩) (rcM_model E hP) rfl hl.1 rfl (Nat.le_of_ble_eq_true rfl) dX9_status_75 ⟨Nat.le_refl _, Nat.le_refl _⟩ (fun H locs hP hS => ?_)
    obtain rfl := g_some hf
    exact g_ri X E hP hS dX9_status_78
  have hf := g_iff hf c3
  by_cases c6 : v1 = (2 : Int32)
  · have hf := g_ift hf c6
    refine g_tin (k := (2 : Int32)) (off := 56) (tgt := 79) hx hb dX9_status_23 c6 (by decide) ?_
    refine lv_aload_n hx hb dX9_status_79 rfl (lv_at hl 0 rfl) ?_
    refine ggM_1 X E hP inX9_status_X9 lkX9_status_1 dX9_status_80 ?_
    obtain rfl := g_some hf
    exact g_ri X E hP hS dX9_status_83
  have hf := g_iff hf c6
  by_cases c7 : v1 = (3 : Int32)
  · have hf := g_ift hf c7
    refine g_tin (k := (3 : Int32)) (off := 61) (tgt := 84) hx hb dX9_status_23 c7 (by decide) ?_
    refine lv_aload_n hx hb dX9_status_84 rfl (lv_at hl 0 rfl) ?_
    refine ggM_2 X E hP inX9_status_X9 lkX9_status_2 dX9_status_85 ?_
    obtain rfl := g_some hf
    exact g_ri X E hP hS dX9_status_88
  have hf := g_iff hf c7
  by_cases c8 : v1 = (4 : Int32)
  · have hf := g_ift hf c8
    refine g_tin (k := (4 : Int32)) (off := 66) (tgt := 89) hx hb dX9_status_23 c8 (by decide) ?_
    refine lv_aload_n hx hb dX9_status_89 rfl (lv_at hl 0 rfl) ?_
    refine ggM_3 X E hP inX9_status_X9 lkX9_status_3 dX9_status_90 ?_
    obtain rfl := g_some hf
    exact g_ri X E hP hS dX9_status_93
  have hf := g_iff hf c8
  by_cases c9 : v1 = (5 : Int32)
  · have hf := g_ift hf c9
    refine g_tin (k := (5 : Int32)) (off := 71) (tgt := 94) hx hb dX9_status_23 c9 (by decide) ?_
    refine lv_aload_n hx hb dX9_status_94 rfl (lv_at hl 0 rfl) ?_
    refine ggM_4 X E hP inX9_status_X9 lkX9_status_4 dX9_status_95 ?_
    obtain rfl := g_some hf
    exact g_ri X E hP hS dX9_status_98
  have hf := g_iff hf c9
  by_cases c10 : v1 = (6 : Int32)
  · have hf := g_ift hf c10
    refine g_tin (k := (6 : Int32)) (off := 76) (tgt := 99) hx hb dX9_status_23 c10 (by decide) ?_
    refine lv_aload_n hx hb dX9_status_99 rfl (lv_at hl 0 rfl) ?_
    refine ggM_38 X E hP inX9_status_X9 lkX9_status_5 dX9_status_100 ?_
    obtain rfl := g_some hf
    exact g_ri X E hP hS dX9_status_103
  have hf := g_iff hf c10
  refine lv_tableOut (tgt := 104) hx hb dX9_status_23 (by have e0 := lv_neT (a := 0) c2 (by decide); have e1 := lv_neT (a := 1) c3 (by decide); have e2 := lv_neT (a := 2) c6 (by decide); have e3 := lv_neT (a := 3) c7 (by decide); have e4 := lv_neT (a := 4) c8 (by decide); have e5 := lv_neT (a := 5) c9 (by decide); have e6 := lv_neT (a := 6) c10 (by decide); omega) (by decide) ?_
  refine lv_iconst (v := -1) hx hb dX9_status_104 (by decide) ?_
  obtain rfl := g_some hf
  exact g_ri X E hP hS dX9_status_105
def fX9_status (S : GS) (a1 : Int32) : Option Int32 :=
  if a1 < (11 : Int32) then
    fX9_status_L22 S a1
  else
    if (17 : Int32) < a1 then
      fX9_status_L22 S a1
    else
      if (a1 - (10 : Int32)) < 0 ∨ 8 ≤ (a1 - (10 : Int32)).toNatClampNeg then none else
      some (S.2.2.1 6 (a1 - (10 : Int32)).toNatClampNeg)
set_option maxHeartbeats 4000000 in
set_option maxRecDepth 100000 in
theorem tcX9_status (l : Launch) (G : GP) (S : GS) (a1 : Int32) {R : Int32} (hf : fX9_status S a1 = some R) : CI l yX9_status wsX9_status 1 24 [.ref (ga G 63), .int a1] WM G S R S := by
  refine g_met RX9 (cc := cX9_status) (nL := 2) (ret := (some .int)) (by decide) rfl rfl (Nat.le_of_ble_eq_true rfl) ?_
  intro p e s m below meth c ls X E hP hS hl
  have hl : lv_has ls 2 [(0, .ref (ga G 63)), (1, .int a1)] := hl
  obtain ⟨hx, hb, -, -, hown, hts, -⟩ := id X
  rw [fX9_status] at hf
  refine lv_iload_n hx hb dX9_status_0 rfl (lv_at hl 1 rfl) ?_
  refine lv_bipush (v := 11) hx hb dX9_status_1 (by decide) ?_
  refine lv_icmp_lt (tgt := 22) hx hb dX9_status_3 (by decide) (fun c1 => ?_) (fun c1 => ?_)
  · have hf := g_ift hf c1
    exact bX9_status_L22 X E _ _ _ _ _ _ hf hP hS (lv_sub hl [0, 1] rfl)
  · have hf := g_iff hf c1
    refine lv_iload_n hx hb dX9_status_6 rfl (lv_at hl 1 rfl) ?_
    refine lv_bipush (v := 17) hx hb dX9_status_7 (by decide) ?_
    refine lv_icmp_gt (tgt := 22) hx hb dX9_status_9 (by decide) (fun c11 => ?_) (fun c11 => ?_)
    · have hf := g_ift hf c11
      exact bX9_status_L22 X E _ _ _ _ _ _ hf hP hS (lv_sub hl [0, 1] rfl)
    · have hf := g_iff hf c11
      refine lv_aload_n hx hb dX9_status_12 rfl (lv_at hl 0 rfl) ?_
      refine ggM_6 X E hP inX9_status_X9 lkX9_status_6 dX9_status_13 ?_
      refine lv_iload_n hx hb dX9_status_16 rfl (lv_at hl 1 rfl) ?_
      refine lv_bipush (v := 10) hx hb dX9_status_17 (by decide) ?_
      refine lv_isub hx hb dX9_status_19 ?_
      obtain ⟨b12, hf⟩ := g_if hf
      refine giM_6 X E hP b12 dX9_status_20 ?_
      obtain rfl := g_some hf
      exact g_ri X E hP hS dX9_status_21
