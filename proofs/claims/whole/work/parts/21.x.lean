theorem hdX3_becomeLike : yX3_becomeLike.cls = RX3 ∧ yX3_becomeLike.cls ≠ "java/lang/invoke/MethodHandle" ∧ yX3_becomeLike.cls ≠ "java/lang/invoke/VarHandle" ∧ (parseMethodDescriptor yX3_becomeLike.desc).map (fun d => d.parameters.length) = some 1 := by decide +kernel
theorem hdX3_heightAt : yX3_heightAt.cls = RX3 ∧ yX3_heightAt.cls ≠ "java/lang/invoke/MethodHandle" ∧ yX3_heightAt.cls ≠ "java/lang/invoke/VarHandle" ∧ (parseMethodDescriptor yX3_heightAt.desc).map (fun d => d.parameters.length) = some 1 := by decide +kernel
theorem hdX3_mayBeOff : yX3_mayBeOff.cls = RX3 ∧ yX3_mayBeOff.cls ≠ "java/lang/invoke/MethodHandle" ∧ yX3_mayBeOff.cls ≠ "java/lang/invoke/VarHandle" ∧ (parseMethodDescriptor yX3_mayBeOff.desc).map (fun d => d.parameters.length) = some 0 := by decide +kernel
theorem hdX3_rawInAll : yX3_rawInAll.cls = RX3 ∧ yX3_rawInAll.cls ≠ "java/lang/invoke/MethodHandle" ∧ yX3_rawInAll.cls ≠ "java/lang/invoke/VarHandle" ∧ (parseMethodDescriptor yX3_rawInAll.desc).map (fun d => d.parameters.length) = some 0 := by decide +kernel
theorem hdX3_risesAheadOf : yX3_risesAheadOf.cls = RX3 ∧ yX3_risesAheadOf.cls ≠ "java/lang/invoke/MethodHandle" ∧ yX3_risesAheadOf.cls ≠ "java/lang/invoke/VarHandle" ∧ (parseMethodDescriptor yX3_risesAheadOf.desc).map (fun d => d.parameters.length) = some 1 := by decide +kernel
theorem hdX3_weightAheadOf : yX3_weightAheadOf.cls = RX3 ∧ yX3_weightAheadOf.cls ≠ "java/lang/invoke/MethodHandle" ∧ yX3_weightAheadOf.cls ≠ "java/lang/invoke/VarHandle" ∧ (parseMethodDescriptor yX3_weightAheadOf.desc).map (fun d => d.parameters.length) = some 2 := by decide +kernel
theorem hdX4_faultIs : yX4_faultIs.cls = RX4 ∧ yX4_faultIs.cls ≠ "java/lang/invoke/MethodHandle" ∧ yX4_faultIs.cls ≠ "java/lang/invoke/VarHandle" ∧ (parseMethodDescriptor yX4_faultIs.desc).map (fun d => d.parameters.length) = some 1 := by decide +kernel
theorem hdX4_faultPlace : yX4_faultPlace.cls = RX4 ∧ yX4_faultPlace.cls ≠ "java/lang/invoke/MethodHandle" ∧ yX4_faultPlace.cls ≠ "java/lang/invoke/VarHandle" ∧ (parseMethodDescriptor yX4_faultPlace.desc).map (fun d => d.parameters.length) = some 0 := by decide +kernel
theorem hdX4_longestWordHere : yX4_longestWordHere.cls = RX4 ∧ yX4_longestWordHere.cls ≠ "java/lang/invoke/MethodHandle" ∧ yX4_longestWordHere.cls ≠ "java/lang/invoke/VarHandle" ∧ (parseMethodDescriptor yX4_longestWordHere.desc).map (fun d => d.parameters.length) = some 0 := by decide +kernel
theorem hdX4_mayStand : yX4_mayStand.cls = RX4 ∧ yX4_mayStand.cls ≠ "java/lang/invoke/MethodHandle" ∧ yX4_mayStand.cls ≠ "java/lang/invoke/VarHandle" ∧ (parseMethodDescriptor yX4_mayStand.desc).map (fun d => d.parameters.length) = some 2 := by decide +kernel
theorem hdX4_number : yX4_number.cls = RX4 ∧ yX4_number.cls ≠ "java/lang/invoke/MethodHandle" ∧ yX4_number.cls ≠ "java/lang/invoke/VarHandle" ∧ (parseMethodDescriptor yX4_number.desc).map (fun d => d.parameters.length) = some 2 := by decide +kernel
theorem hdX4_numbersFrom : yX4_numbersFrom.cls = RX4 ∧ yX4_numbersFrom.cls ≠ "java/lang/invoke/MethodHandle" ∧ yX4_numbersFrom.cls ≠ "java/lang/invoke/VarHandle" ∧ (parseMethodDescriptor yX4_numbersFrom.desc).map (fun d => d.parameters.length) = some 1 := by decide +kernel
theorem hdX4_readItem : yX4_readItem.cls = RX4 ∧ yX4_readItem.cls ≠ "java/lang/invoke/MethodHandle" ∧ yX4_readItem.cls ≠ "java/lang/invoke/VarHandle" ∧ (parseMethodDescriptor yX4_readItem.desc).map (fun d => d.parameters.length) = some 0 := by decide +kernel
theorem hdX4_readOver : yX4_readOver.cls = RX4 ∧ yX4_readOver.cls ≠ "java/lang/invoke/MethodHandle" ∧ yX4_readOver.cls ≠ "java/lang/invoke/VarHandle" ∧ (parseMethodDescriptor yX4_readOver.desc).map (fun d => d.parameters.length) = some 3 := by decide +kernel
theorem hdX4_sign : yX4_sign.cls = RX4 ∧ yX4_sign.cls ≠ "java/lang/invoke/MethodHandle" ∧ yX4_sign.cls ≠ "java/lang/invoke/VarHandle" ∧ (parseMethodDescriptor yX4_sign.desc).map (fun d => d.parameters.length) = some 1 := by decide +kernel
theorem hdX4_tellItem : yX4_tellItem.cls = RX4 ∧ yX4_tellItem.cls ≠ "java/lang/invoke/MethodHandle" ∧ yX4_tellItem.cls ≠ "java/lang/invoke/VarHandle" ∧ (parseMethodDescriptor yX4_tellItem.desc).map (fun d => d.parameters.length) = some 1 := by decide +kernel
theorem hdX5_numberAt : yX5_numberAt.cls = RX5 ∧ yX5_numberAt.cls ≠ "java/lang/invoke/MethodHandle" ∧ yX5_numberAt.cls ≠ "java/lang/invoke/VarHandle" ∧ (parseMethodDescriptor yX5_numberAt.desc).map (fun d => d.parameters.length) = some 2 := by decide +kernel
theorem hdX7_consider : yX7_consider.cls = RX7 ∧ yX7_consider.cls ≠ "java/lang/invoke/MethodHandle" ∧ yX7_consider.cls ≠ "java/lang/invoke/VarHandle" ∧ (parseMethodDescriptor yX7_consider.desc).map (fun d => d.parameters.length) = some 3 := by decide +kernel
theorem hdX7_firstOf : yX7_firstOf.cls = RX7 ∧ yX7_firstOf.cls ≠ "java/lang/invoke/MethodHandle" ∧ yX7_firstOf.cls ≠ "java/lang/invoke/VarHandle" ∧ (parseMethodDescriptor yX7_firstOf.desc).map (fun d => d.parameters.length) = some 1 := by decide +kernel
theorem hdX7_found : yX7_found.cls = RX7 ∧ yX7_found.cls ≠ "java/lang/invoke/MethodHandle" ∧ yX7_found.cls ≠ "java/lang/invoke/VarHandle" ∧ (parseMethodDescriptor yX7_found.desc).map (fun d => d.parameters.length) = some 0 := by decide +kernel
theorem hdX7_search : yX7_search.cls = RX7 ∧ yX7_search.cls ≠ "java/lang/invoke/MethodHandle" ∧ yX7_search.cls ≠ "java/lang/invoke/VarHandle" ∧ (parseMethodDescriptor yX7_search.desc).map (fun d => d.parameters.length) = some 1 := by decide +kernel
theorem hdX7_slipsOf : yX7_slipsOf.cls = RX7 ∧ yX7_slipsOf.cls ≠ "java/lang/invoke/MethodHandle" ∧ yX7_slipsOf.cls ≠ "java/lang/invoke/VarHandle" ∧ (parseMethodDescriptor yX7_slipsOf.desc).map (fun d => d.parameters.length) = some 2 := by decide +kernel
theorem hdX8_shareOf : yX8_shareOf.cls = RX8 ∧ yX8_shareOf.cls ≠ "java/lang/invoke/MethodHandle" ∧ yX8_shareOf.cls ≠ "java/lang/invoke/VarHandle" ∧ (parseMethodDescriptor yX8_shareOf.desc).map (fun d => d.parameters.length) = some 3 := by decide +kernel
theorem lkX4_numbersFrom_0 : Cond.fieldLink RX4 114 "BackToTheFirstStone$Reader" "NUMBERS_FROM" "[I" ∈ wsX4_numbersFrom := by decide +kernel
def fX4_numbersFrom (S : GS) (a1 : Int32) : Option Int32 :=
  if a1 < 0 then
    some (0 : Int32)
  else
    if (8 : Int32) ≤ a1 then
      some (0 : Int32)
    else
      if a1 < 0 ∨ 8 ≤ (a1).toNatClampNeg then none else
      some (gTb 5 (a1).toNatClampNeg)
set_option maxHeartbeats 4000000 in
set_option maxRecDepth 100000 in
theorem tcX4_numbersFrom (l : Launch) (G : GP) (S : GS) (a1 : Int32) {R : Int32} (hf : fX4_numbersFrom S a1 = some R) : CI l yX4_numbersFrom wsX4_numbersFrom 0 0 [.int a1] WX G S R S := by
  refine g_met RX4 (cc := cX4_numbersFrom) (nL := 1) (ret := (some .int)) (by decide) rfl rfl (Nat.le_of_ble_eq_true rfl) ?_
  intro p e s m below meth c ls X E hP hS hl
  have hl : lv_has ls 1 [(0, .int a1)] := hl
  obtain ⟨hx, hb, -, -, hown, hts, -⟩ := id X
  rw [fX4_numbersFrom] at hf
  refine lv_iload_n hx hb dX4_numbersFrom_0 rfl (lv_at hl 0 rfl) ?_
  refine lv_if_lt (tgt := 20) hx hb dX4_numbersFrom_1 (by decide) (fun c1 => ?_) (fun c1 => ?_)
  · have hf := g_ift hf c1
    refine lv_iconst (v := 0) hx hb dX4_numbersFrom_20 (by decide) ?_
    obtain rfl := g_some hf
    exact g_ri X E hP hS dX4_numbersFrom_21
  · have hf := g_iff hf c1
    refine lv_iload_n hx hb dX4_numbersFrom_4 rfl (lv_at hl 0 rfl) ?_
    refine g_tget X E hS 5 rfl lkX4_numbersFrom_0 dX4_numbersFrom_5 ?_
    refine g_tln X E hS 5 rfl (v := (8 : Int32)) rfl dX4_numbersFrom_8 ?_
    refine lv_icmp_ge (tgt := 20) hx hb dX4_numbersFrom_9 (by decide) (fun c2 => ?_) (fun c2 => ?_)
    · have hf := g_ift hf c2
      refine lv_iconst (v := 0) hx hb dX4_numbersFrom_20 (by decide) ?_
      obtain rfl := g_some hf
      exact g_ri X E hP hS dX4_numbersFrom_21
    · have hf := g_iff hf c2
      refine g_tget X E hS 5 rfl lkX4_numbersFrom_0 dX4_numbersFrom_12 ?_
      refine lv_iload_n hx hb dX4_numbersFrom_15 rfl (lv_at hl 0 rfl) ?_
      obtain ⟨b3, hf⟩ := g_if hf
      refine g_tld X E hS 5 rfl b3 dX4_numbersFrom_16 ?_
      refine lv_goto (tgt := 21) hx hb dX4_numbersFrom_17 (by decide) ?_
      obtain rfl := g_some hf
      exact g_ri X E hP hS dX4_numbersFrom_21
def fX3_hasRoomFor_told (S : GS) (a1 : Int32) : Option Int32 :=
  if ((16 : Int32) - (S.1 34)) < a1 then
    some (0 : Int32)
  else
    some (1 : Int32)
set_option maxHeartbeats 4000000 in
set_option maxRecDepth 100000 in
theorem tcX3_hasRoomFor_told (l : Launch) (G : GP) (S : GS) (a1 : Int32) {R : Int32} (hf : fX3_hasRoomFor_told S a1 = some R) : CI l yX3_hasRoomFor wsX3_hasRoomFor 0 0 [.ref (ga G 47), .int a1] WX G S R S := by
  refine g_met RX3 (cc := cX3_hasRoomFor) (nL := 2) (ret := (some .boolean)) (by decide) rfl rfl (Nat.le_of_ble_eq_true rfl) ?_
  intro p e s m below meth c ls X E hP hS hl
  have hl : lv_has ls 2 [(0, .ref (ga G 47)), (1, .int a1)] := hl
  obtain ⟨hx, hb, -, -, hown, hts, -⟩ := id X
  rw [fX3_hasRoomFor_told] at hf
  refine lv_iload_n hx hb dX3_hasRoomFor_0 rfl (lv_at hl 1 rfl) ?_
  refine lv_bipush (v := 16) hx hb dX3_hasRoomFor_1 (by decide) ?_
  refine lv_aload_n hx hb dX3_hasRoomFor_3 rfl (lv_at hl 0 rfl) ?_
  refine ggX_34 X E hP inX3_hasRoomFor_X3 lkX3_hasRoomFor_0 dX3_hasRoomFor_4 ?_
  refine lv_isub hx hb dX3_hasRoomFor_7 ?_
  refine lv_icmp_gt (tgt := 15) hx hb dX3_hasRoomFor_8 (by decide) (fun c1 => ?_) (fun c1 => ?_)
  · have hf := g_ift hf c1
    refine lv_iconst (v := 0) hx hb dX3_hasRoomFor_15 (by decide) ?_
    obtain rfl := g_some hf
    exact g_rz (v := (0 : Int32)) X E hP hS rfl dX3_hasRoomFor_16
  · have hf := g_iff hf c1
    refine lv_iconst (v := 1) hx hb dX3_hasRoomFor_11 (by decide) ?_
    refine lv_goto (tgt := 16) hx hb dX3_hasRoomFor_12 (by decide) ?_
    obtain rfl := g_some hf
    exact g_rz (v := (1 : Int32)) X E hP hS rfl dX3_hasRoomFor_16
def fX3_put_told_L24 (S : GS) (v1 : Int32) (v2 : Int32) (v3 : Int32) : Option GS :=
  some S
set_option maxHeartbeats 4000000 in
set_option maxRecDepth 100000 in
theorem bX3_put_told_L24 {p : Program} {l : Launch} {e : Env} {s : State} {m : MethodId} {args : Array Value} {below : List Frame} {meth : Method} {c : Code} {G : GP} (X : GX p s m meth c args cX3_put 5 none wsX3_put RX3) (E : gE WX G s) (S : GS) (v1 : Int32) (v2 : Int32) (v3 : Int32) (R : GS) (H : Heap) (locs : List Loc) (ls : Array Slot) (hf : fX3_put_told_L24 S v1 v2 v3 = some R) (hP : va_P (gD G) vwCl (WX G S ++ gF G) H) (hS : va_S (gA G) s.heap H locs) (hl : lv_has ls 5 [(0, .ref (ga G 47)), (1, .int v1), (2, .int v2), (3, .int v3)]) : W p l e (gR 0 0) s m args below meth c H locs 0 0 (MQ below (gQv WX G R) args s 0 0 (gA G)) (F0 m 24 ls []) := by
  obtain ⟨hx, hb, -, -, hown, hts, -⟩ := id X
  rw [fX3_put_told_L24] at hf
  refine lv_iconst (v := 0) hx hb dX3_put_24 (by decide) ?_
  refine lv_istore (lv' := [(4, .int (0 : Int32)), (0, .ref (ga G 47)), (1, .int v1), (2, .int v2), (3, .int v3)]) hx hb dX3_put_25 hl (by decide) rfl (fun ls hl => ?_)
  refine lv_iload hx hb dX3_put_27 (lv_at hl 0 rfl) ?_
  refine lv_if_eq (tgt := 44) hx hb dX3_put_29 (by decide) (fun _ => ?_) (fun z => absurd z (by decide))
  obtain rfl := g_some hf
  exact g_rv X E hP hS dX3_put_44
def fX3_put_told (S : GS) (a1 : Int32) (a2 : Int32) (a3 : Int32) : Option GS :=
  if a1 < 0 then
    fX3_put_told_L24 S a1 a2 a3
  else
    if (16 : Int32) ≤ a1 then
      fX3_put_told_L24 S a1 a2 a3
    else
      if a2 < 0 then
        fX3_put_told_L24 S a1 a2 a3
      else
        if (8 : Int32) ≤ a2 then
          fX3_put_told_L24 S a1 a2 a3
        else
          if ((a1 * (8 : Int32)) + a2) < 0 ∨ 128 ≤ ((a1 * (8 : Int32)) + a2).toNatClampNeg then none else
          some (gU3 S 32 ((a1 * (8 : Int32)) + a2).toNatClampNeg a3)
set_option maxHeartbeats 4000000 in
set_option maxRecDepth 100000 in
theorem tcX3_put_told (l : Launch) (G : GP) (S : GS) (a1 : Int32) (a2 : Int32) (a3 : Int32) {R : GS} (hf : fX3_put_told S a1 a2 a3 = some R) : CV l yX3_put wsX3_put 0 0 [.ref (ga G 47), .int a1, .int a2, .int a3] WX G S R := by
  refine g_met RX3 (cc := cX3_put) (nL := 5) (ret := none) (by decide) rfl rfl (Nat.le_of_ble_eq_true rfl) ?_
  intro p e s m below meth c ls X E hP hS hl
  have hl : lv_has ls 5 [(0, .ref (ga G 47)), (1, .int a1), (2, .int a2), (3, .int a3)] := hl
  obtain ⟨hx, hb, -, -, hown, hts, -⟩ := id X
  rw [fX3_put_told] at hf
  refine lv_iload_n hx hb dX3_put_0 rfl (lv_at hl 1 rfl) ?_
  refine lv_if_lt (tgt := 24) hx hb dX3_put_1 (by decide) (fun c1 => ?_) (fun c1 => ?_)
  · have hf := g_ift hf c1
    exact bX3_put_told_L24 X E _ _ _ _ _ _ _ _ hf hP hS (lv_sub hl [0, 1, 2, 3] rfl)
  · have hf := g_iff hf c1
    refine lv_iload_n hx hb dX3_put_4 rfl (lv_at hl 1 rfl) ?_
    refine lv_bipush (v := 16) hx hb dX3_put_5 (by decide) ?_
    refine lv_icmp_ge (tgt := 24) hx hb dX3_put_7 (by decide) (fun c2 => ?_) (fun c2 => ?_)
    · have hf := g_ift hf c2
      exact bX3_put_told_L24 X E _ _ _ _ _ _ _ _ hf hP hS (lv_sub hl [0, 1, 2, 3] rfl)
    · have hf := g_iff hf c2
      refine lv_iload_n hx hb dX3_put_10 rfl (lv_at hl 2 rfl) ?_
      refine lv_if_lt (tgt := 24) hx hb dX3_put_11 (by decide) (fun c3 => ?_) (fun c3 => ?_)
      · have hf := g_ift hf c3
        exact bX3_put_told_L24 X E _ _ _ _ _ _ _ _ hf hP hS (lv_sub hl [0, 1, 2, 3] rfl)
      · have hf := g_iff hf c3
        refine lv_iload_n hx hb dX3_put_14 rfl (lv_at hl 2 rfl) ?_
        refine lv_bipush (v := 8) hx hb dX3_put_15 (by decide) ?_
        refine lv_icmp_ge (tgt := 24) hx hb dX3_put_17 (by decide) (fun c4 => ?_) (fun c4 => ?_)
        · have hf := g_ift hf c4
          exact bX3_put_told_L24 X E _ _ _ _ _ _ _ _ hf hP hS (lv_sub hl [0, 1, 2, 3] rfl)
        · have hf := g_iff hf c4
          refine lv_iconst (v := 1) hx hb dX3_put_20 (by decide) ?_
          refine lv_goto (tgt := 25) hx hb dX3_put_21 (by decide) ?_
          refine lv_istore (lv' := [(4, .int (1 : Int32)), (0, .ref (ga G 47)), (1, .int a1), (2, .int a2), (3, .int a3)]) hx hb dX3_put_25 hl (by decide) rfl (fun ls hl => ?_)
          refine lv_iload hx hb dX3_put_27 (lv_at hl 0 rfl) ?_
          refine lv_if_eq (tgt := 44) hx hb dX3_put_29 (by decide) (fun z => absurd z (by decide)) (fun _ => ?_)
          refine lv_aload_n hx hb dX3_put_32 rfl (lv_at hl 1 rfl) ?_
          refine ggX_32 X E hP inX3_put_X3 lkX3_put_0 dX3_put_33 ?_
          refine lv_iload_n hx hb dX3_put_36 rfl (lv_at hl 2 rfl) ?_
          refine lv_bipush (v := 8) hx hb dX3_put_37 (by decide) ?_
          refine lv_imul hx hb dX3_put_39 ?_
          refine lv_iload_n hx hb dX3_put_40 rfl (lv_at hl 3 rfl) ?_
          refine lv_iadd hx hb dX3_put_41 ?_
          refine lv_iload_n hx hb dX3_put_42 rfl (lv_at hl 4 rfl) ?_
          obtain ⟨b5, hf⟩ := g_if hf
          refine gsX_32 X E hP hS b5 dX3_put_43 (fun H locs hP hS => ?_)
          obtain rfl := g_some hf
          exact g_rv X E hP hS dX3_put_44
def fX3_add_told (S : GS) (a1 : Int32) (a2 : Int32) (a3 : Int32) (a4 : Int32) (a5 : Int32) (a6 : Int32) : Option GS :=
  (fX3_hasRoomFor_told S (1 : Int32)).bind fun u1 =>
  if u1 = 0 then
    some S
  else
    (fX3_put_told S (S.1 34) (0 : Int32) a1).bind fun u4 =>
    (fX3_put_told u4 (u4.1 34) (1 : Int32) a2).bind fun u6 =>
    (fX3_put_told u6 (u6.1 34) (2 : Int32) a3).bind fun u8 =>
    (fX3_put_told u8 (u8.1 34) (3 : Int32) a4).bind fun u10 =>
    (fX3_put_told u10 (u10.1 34) (4 : Int32) a5).bind fun u12 =>
    (fX3_put_told u12 (u12.1 34) (5 : Int32) a6).bind fun u14 =>
    (fX3_put_told u14 (u14.1 34) (6 : Int32) (0 : Int32)).bind fun u16 =>
    (fX3_put_told u16 (u16.1 34) (7 : Int32) (0 : Int32)).bind fun u18 =>
    some (gU1 u18 34 ((u18.1 34) + (1 : Int32)))
set_option maxHeartbeats 4000000 in
set_option maxRecDepth 100000 in
theorem tcX3_add_told (l : Launch) (G : GP) (S : GS) (a1 : Int32) (a2 : Int32) (a3 : Int32) (a4 : Int32) (a5 : Int32) (a6 : Int32) {R : GS} (hf : fX3_add_told S a1 a2 a3 a4 a5 a6 = some R) : CV l yX3_add wsX3_add 1 24 [.ref (ga G 47), .int a1, .int a2, .int a3, .int a4, .int a5, .int a6] WX G S R := by
  refine g_met RX3 (cc := cX3_add) (nL := 7) (ret := none) (by decide) rfl rfl (Nat.le_of_ble_eq_true rfl) ?_
  intro p e s m below meth c ls X E hP hS hl
  have hl : lv_has ls 7 [(0, .ref (ga G 47)), (1, .int a1), (2, .int a2), (3, .int a3), (4, .int a4), (5, .int a5), (6, .int a6)] := hl
  obtain ⟨hx, hb, -, -, hown, hts, -⟩ := id X
  rw [fX3_add_told] at hf
  refine lv_aload_n hx hb dX3_add_0 rfl (lv_at hl 0 rfl) ?_
  refine lv_iconst (v := 1) hx hb dX3_add_1 (by decide) ?_
  obtain ⟨u1, h2, hf⟩ := g_bind hf
  refine g_vi (rest := []) X E hP hS (tcX3_hasRoomFor_told l G _ _ h2) (g_cwV X gX3_add_X3_hasRoomFor rfl hdX3_hasRoomFor ⟨Nat.le_of_ble_eq_true rfl, Nat.le_of_ble_eq_true rfl⟩) (rcX_told E hP) rfl hl.1 rfl (Nat.le_of_ble_eq_true rfl) dX3_add_2 ⟨Nat.le_refl _, Nat.le_refl _⟩ (fun H locs hP hS => ?_)
  refine lv_if_ne (tgt := 9) hx hb dX3_add_5 (by decide) (fun c3 => ?_) (fun c3 => ?_)
  · have hf := g_iff hf c3
    refine lv_aload_n hx hb dX3_add_9 rfl (lv_at hl 0 rfl) ?_
    refine lv_aload_n hx hb dX3_add_10 rfl (lv_at hl 0 rfl) ?_
    refine ggX_34 X E hP inX3_add_X3 lkX3_add_0 dX3_add_11 ?_
    refine lv_iconst (v := 0) hx hb dX3_add_14 (by decide) ?_
    refine lv_iload_n hx hb dX3_add_15 rfl (lv_at hl 1 rfl) ?_
    obtain ⟨u4, h5, hf⟩ := g_bind hf
    refine g_vv (rest := []) X E hP hS (tcX3_put_told l G _ _ _ _ h5) (g_cwV X gX3_add_X3_put rfl hdX3_put ⟨Nat.le_of_ble_eq_true rfl, Nat.le_of_ble_eq_true rfl⟩) (rcX_told E hP) rfl hl.1 rfl (Nat.le_of_ble_eq_true rfl) dX3_add_16 ⟨Nat.le_refl _, Nat.le_refl _⟩ (fun H locs hP hS => ?_)
    refine lv_aload_n hx hb dX3_add_19 rfl (lv_at hl 0 rfl) ?_
    refine lv_aload_n hx hb dX3_add_20 rfl (lv_at hl 0 rfl) ?_
    refine ggX_34 X E hP inX3_add_X3 lkX3_add_0 dX3_add_21 ?_
    refine lv_iconst (v := 1) hx hb dX3_add_24 (by decide) ?_
    refine lv_iload_n hx hb dX3_add_25 rfl (lv_at hl 2 rfl) ?_
    obtain ⟨u6, h7, hf⟩ := g_bind hf
    refine g_vv (rest := []) X E hP hS (tcX3_put_told l G _ _ _ _ h7) (g_cwV X gX3_add_X3_put rfl hdX3_put ⟨Nat.le_of_ble_eq_true rfl, Nat.le_of_ble_eq_true rfl⟩) (rcX_told E hP) rfl hl.1 rfl (Nat.le_of_ble_eq_true rfl) dX3_add_26 ⟨Nat.le_refl _, Nat.le_refl _⟩ (fun H locs hP hS => ?_)
    refine lv_aload_n hx hb dX3_add_29 rfl (lv_at hl 0 rfl) ?_
    refine lv_aload_n hx hb dX3_add_30 rfl (lv_at hl 0 rfl) ?_
    refine ggX_34 X E hP inX3_add_X3 lkX3_add_0 dX3_add_31 ?_
    refine lv_iconst (v := 2) hx hb dX3_add_34 (by decide) ?_
    refine lv_iload_n hx hb dX3_add_35 rfl (lv_at hl 3 rfl) ?_
    obtain ⟨u8, h9, hf⟩ := g_bind hf
    refine g_vv (rest := []) X E hP hS (tcX3_put_told l G _ _ _ _ h9) (g_cwV X gX3_add_X3_put rfl hdX3_put ⟨Nat.le_of_ble_eq_true rfl, Nat.le_of_ble_eq_true rfl⟩) (rcX_told E hP) rfl hl.1 rfl (Nat.le_of_ble_eq_true rfl) dX3_add_36 ⟨Nat.le_refl _, Nat.le_refl _⟩ (fun H locs hP hS => ?_)
    refine lv_aload_n hx hb dX3_add_39 rfl (lv_at hl 0 rfl) ?_
    refine lv_aload_n hx hb dX3_add_40 rfl (lv_at hl 0 rfl) ?_
    refine ggX_34 X E hP inX3_add_X3 lkX3_add_0 dX3_add_41 ?_
    refine lv_iconst (v := 3) hx hb dX3_add_44 (by decide) ?_
    refine lv_iload hx hb dX3_add_45 (lv_at hl 4 rfl) ?_
    obtain ⟨u10, h11, hf⟩ := g_bind hf
    refine g_vv (rest := []) X E hP hS (tcX3_put_told l G _ _ _ _ h11) (g_cwV X gX3_add_X3_put rfl hdX3_put ⟨Nat.le_of_ble_eq_true rfl, Nat.le_of_ble_eq_true rfl⟩) (rcX_told E hP) rfl hl.1 rfl (Nat.le_of_ble_eq_true rfl) dX3_add_47 ⟨Nat.le_refl _, Nat.le_refl _⟩ (fun H locs hP hS => ?_)
    refine lv_aload_n hx hb dX3_add_50 rfl (lv_at hl 0 rfl) ?_
    refine lv_aload_n hx hb dX3_add_51 rfl (lv_at hl 0 rfl) ?_
    refine ggX_34 X E hP inX3_add_X3 lkX3_add_0 dX3_add_52 ?_
    refine lv_iconst (v := 4) hx hb dX3_add_55 (by decide) ?_
    refine lv_iload hx hb dX3_add_56 (lv_at hl 5 rfl) ?_
    obtain ⟨u12, h13, hf⟩ := g_bind hf
    refine g_vv (rest := []) X E hP hS (tcX3_put_told l G _ _ _ _ h13) (g_cwV X gX3_add_X3_put rfl hdX3_put ⟨Nat.le_of_ble_eq_true rfl, Nat.le_of_ble_eq_true rfl⟩) (rcX_told E hP) rfl hl.1 rfl (Nat.le_of_ble_eq_true rfl) dX3_add_58 ⟨Nat.le_refl _, Nat.le_refl _⟩ (fun H locs hP hS => ?_)
    refine lv_aload_n hx hb dX3_add_61 rfl (lv_at hl 0 rfl) ?_
    refine lv_aload_n hx hb dX3_add_62 rfl (lv_at hl 0 rfl) ?_
    refine ggX_34 X E hP inX3_add_X3 lkX3_add_0 dX3_add_63 ?_
    refine lv_iconst (v := 5) hx hb dX3_add_66 (by decide) ?_
    refine lv_iload hx hb dX3_add_67 (lv_at hl 6 rfl) ?_
    obtain ⟨u14, h15, hf⟩ := g_bind hf
    refine g_vv (rest := []) X E hP hS (tcX3_put_told l G _ _ _ _ h15) (g_cwV X gX3_add_X3_put rfl hdX3_put ⟨Nat.le_of_ble_eq_true rfl, Nat.le_of_ble_eq_true rfl⟩) (rcX_told E hP) rfl hl.1 rfl (Nat.le_of_ble_eq_true rfl) dX3_add_69 ⟨Nat.le_refl _, Nat.le_refl _⟩ (fun H locs hP hS => ?_)
    refine lv_aload_n hx hb dX3_add_72 rfl (lv_at hl 0 rfl) ?_
    refine lv_aload_n hx hb dX3_add_73 rfl (lv_at hl 0 rfl) ?_
    refine ggX_34 X E hP inX3_add_X3 lkX3_add_0 dX3_add_74 ?_
    refine lv_bipush (v := 6) hx hb dX3_add_77 (by decide) ?_
    refine lv_iconst (v := 0) hx hb dX3_add_79 (by decide) ?_
    obtain ⟨u16, h17, hf⟩ := g_bind hf
    refine g_vv (rest := []) X E hP hS (tcX3_put_told l G _ _ _ _ h17) (g_cwV X gX3_add_X3_put rfl hdX3_put ⟨Nat.le_of_ble_eq_true rfl, Nat.le_of_ble_eq_true rfl⟩) (rcX_told E hP) rfl hl.1 rfl (Nat.le_of_ble_eq_true rfl) dX3_add_80 ⟨Nat.le_refl _, Nat.le_refl _⟩ (fun H locs hP hS => ?_)
    refine lv_aload_n hx hb dX3_add_83 rfl (lv_at hl 0 rfl) ?_
    refine lv_aload_n hx hb dX3_add_84 rfl (lv_at hl 0 rfl) ?_
    refine ggX_34 X E hP inX3_add_X3 lkX3_add_0 dX3_add_85 ?_
    refine lv_bipush (v := 7) hx hb dX3_add_88 (by decide) ?_
    refine lv_iconst (v := 0) hx hb dX3_add_90 (by decide) ?_
    obtain ⟨u18, h19, hf⟩ := g_bind hf
    refine g_vv (rest := []) X E hP hS (tcX3_put_told l G _ _ _ _ h19) (g_cwV X gX3_add_X3_put rfl hdX3_put ⟨Nat.le_of_ble_eq_true rfl, Nat.le_of_ble_eq_true rfl⟩) (rcX_told E hP) rfl hl.1 rfl (Nat.le_of_ble_eq_true rfl) dX3_add_91 ⟨Nat.le_refl _, Nat.le_refl _⟩ (fun H locs hP hS => ?_)
    refine lv_aload_n hx hb dX3_add_94 rfl (lv_at hl 0 rfl) ?_
    refine lv_dup hx hb dX3_add_95 rfl ?_
    refine ggX_34 X E hP inX3_add_X3 lkX3_add_0 dX3_add_96 ?_
    refine lv_iconst (v := 1) hx hb dX3_add_99 (by decide) ?_
    refine lv_iadd hx hb dX3_add_100 ?_
    refine gpX_34 X E hP hS inX3_add_X3 lkX3_add_0 dX3_add_101 (fun H locs hP hS => ?_)
    obtain rfl := g_some hf
    exact g_rv X E hP hS dX3_add_104
  · have hf := g_ift hf c3
    obtain rfl := g_some hf
    exact g_rv X E hP hS dX3_add_8
def fX3_putSetting_told (S : GS) (a1 : Int32) (a2 : Int32) : Option GS :=
  if (a1 - (8 : Int32)) < 0 then
    some S
  else
    if (3 : Int32) ≤ (a1 - (8 : Int32)) then
      some S
    else
      if (a1 - (8 : Int32)) < 0 ∨ 3 ≤ (a1 - (8 : Int32)).toNatClampNeg then none else
      some (gU3 S 33 (a1 - (8 : Int32)).toNatClampNeg a2)
set_option maxHeartbeats 4000000 in
set_option maxRecDepth 100000 in
theorem tcX3_putSetting_told (l : Launch) (G : GP) (S : GS) (a1 : Int32) (a2 : Int32) {R : GS} (hf : fX3_putSetting_told S a1 a2 = some R) : CV l yX3_putSetting wsX3_putSetting 0 0 [.ref (ga G 47), .int a1, .int a2] WX G S R := by
  refine g_met RX3 (cc := cX3_putSetting) (nL := 4) (ret := none) (by decide) rfl rfl (Nat.le_of_ble_eq_true rfl) ?_
  intro p e s m below meth c ls X E hP hS hl
  have hl : lv_has ls 4 [(0, .ref (ga G 47)), (1, .int a1), (2, .int a2)] := hl
  obtain ⟨hx, hb, -, -, hown, hts, -⟩ := id X
  rw [fX3_putSetting_told] at hf
  refine lv_iload_n hx hb dX3_putSetting_0 rfl (lv_at hl 1 rfl) ?_
  refine lv_bipush (v := 8) hx hb dX3_putSetting_1 (by decide) ?_
  refine lv_isub hx hb dX3_putSetting_3 ?_
  refine lv_istore_n (lv' := [(3, .int (a1 - (8 : Int32))), (0, .ref (ga G 47)), (1, .int a1), (2, .int a2)]) hx hb dX3_putSetting_4 rfl hl (by decide) rfl (fun ls hl => ?_)
  refine lv_iload_n hx hb dX3_putSetting_5 rfl (lv_at hl 0 rfl) ?_
  refine lv_if_lt (tgt := 25) hx hb dX3_putSetting_6 (by decide) (fun c1 => ?_) (fun c1 => ?_)
  · have hf := g_ift hf c1
    obtain rfl := g_some hf
    exact g_rv X E hP hS dX3_putSetting_25
  · have hf := g_iff hf c1
    refine lv_iload_n hx hb dX3_putSetting_9 rfl (lv_at hl 0 rfl) ?_
    refine lv_aload_n hx hb dX3_putSetting_10 rfl (lv_at hl 1 rfl) ?_
    refine ggX_33 X E hP inX3_putSetting_X3 lkX3_putSetting_0 dX3_putSetting_11 ?_
    refine glX_33 X E hP dX3_putSetting_14 ?_
    refine lv_icmp_ge (tgt := 25) hx hb dX3_putSetting_15 (by decide) (fun c2 => ?_) (fun c2 => ?_)
    · have hf := g_ift hf c2
      obtain rfl := g_some hf
      exact g_rv X E hP hS dX3_putSetting_25
    · have hf := g_iff hf c2
      refine lv_aload_n hx hb dX3_putSetting_18 rfl (lv_at hl 1 rfl) ?_
      refine ggX_33 X E hP inX3_putSetting_X3 lkX3_putSetting_0 dX3_putSetting_19 ?_
      refine lv_iload_n hx hb dX3_putSetting_22 rfl (lv_at hl 0 rfl) ?_
      refine lv_iload_n hx hb dX3_putSetting_23 rfl (lv_at hl 3 rfl) ?_
      obtain ⟨b3, hf⟩ := g_if hf
      refine gsX_33 X E hP hS b3 dX3_putSetting_24 (fun H locs hP hS => ?_)
      obtain rfl := g_some hf
      exact g_rv X E hP hS dX3_putSetting_25
theorem lkX4_tellItem_0 : Cond.fieldLink RX4 12 RX4 "told" "LBackToTheFirstStone$Loop;" ∈ wsX4_tellItem := by decide +kernel
theorem lkX4_tellItem_1 : Cond.fieldLink RX4 18 RX4 "numbers" "[I" ∈ wsX4_tellItem := by decide +kernel
theorem inX4_tellItem_X4 : ∀ w ∈ wsX40, w ∈ wsX4_tellItem := by decide +kernel
def fX4_tellItem (S : GS) (a1 : Int32) : Option GS :=
  if a1 = (0 : Int32) then
    (fX3_add_told S (S.2.2.1 81 (0 : Int32).toNatClampNeg) (S.2.2.1 81 (1 : Int32).toNatClampNeg) (S.2.2.1 81 (2 : Int32).toNatClampNeg) (S.2.2.1 81 (3 : Int32).toNatClampNeg) (S.2.2.1 81 (4 : Int32).toNatClampNeg) (S.2.2.1 81 (5 : Int32).toNatClampNeg)).bind fun u2 =>
    some u2
  else if a1 = (1 : Int32) then
    (fX3_put_told S (S.2.2.1 81 (0 : Int32).toNatClampNeg) (6 : Int32) (S.2.2.1 81 (1 : Int32).toNatClampNeg)).bind fun u5 =>
    some u5
  else if a1 = (2 : Int32) then
    (fX3_put_told S (S.2.2.1 81 (0 : Int32).toNatClampNeg) (7 : Int32) (S.2.2.1 81 (1 : Int32).toNatClampNeg)).bind fun u8 =>
    some u8
  else if a1 = (3 : Int32) then
    (fX3_putSetting_told S (8 : Int32) (S.2.2.1 81 (0 : Int32).toNatClampNeg)).bind fun u11 =>
    some u11
  else if a1 = (4 : Int32) then
    (fX3_putSetting_told S (9 : Int32) (S.2.2.1 81 (0 : Int32).toNatClampNeg)).bind fun u14 =>
    some u14
  else if a1 = (5 : Int32) then
    (fX3_putSetting_told S (10 : Int32) (S.2.2.1 81 (0 : Int32).toNatClampNeg)).bind fun u17 =>
    some u17
  else (fX3_put_told S (S.2.2.1 81 (0 : Int32).toNatClampNeg) (2 : Int32) (S.2.2.1 81 (1 : Int32).toNatClampNeg)).bind fun u19 =>
  (fX3_put_told u19 (u19.2.2.1 81 (0 : Int32).toNatClampNeg) (3 : Int32) (u19.2.2.1 81 (2 : Int32).toNatClampNeg)).bind fun u21 =>
  some u21
set_option maxHeartbeats 4000000 in
set_option maxRecDepth 100000 in
theorem tcX4_tellItem (l : Launch) (G : GP) (S : GS) (a1 : Int32) {R : GS} (hf : fX4_tellItem S a1 = some R) : CV l yX4_tellItem wsX4_tellItem 2 50 [.ref (ga G 95), .int a1] WX G S R := by
  refine g_met RX4 (cc := cX4_tellItem) (nL := 2) (ret := none) (by decide) rfl rfl (Nat.le_of_ble_eq_true rfl) ?_
  intro p e s m below meth c ls X E hP hS hl
  have hl : lv_has ls 2 [(0, .ref (ga G 95)), (1, .int a1)] := hl
  obtain ⟨hx, hb, -, -, hown, hts, -⟩ := id X
  rw [fX4_tellItem] at hf
  refine lv_iload_n hx hb dX4_tellItem_0 rfl (lv_at hl 1 rfl) ?_
  by_cases c1 : a1 = (0 : Int32)
  · have hf := g_ift hf c1
    refine g_tin (k := (0 : Int32)) (off := 39) (tgt := 40) hx hb dX4_tellItem_1 c1 (by decide) ?_
    refine lv_aload_n hx hb dX4_tellItem_40 rfl (lv_at hl 0 rfl) ?_
    refine ggX_80 X E hP inX4_tellItem_X4 lkX4_tellItem_0 dX4_tellItem_41 ?_
    refine lv_aload_n hx hb dX4_tellItem_44 rfl (lv_at hl 0 rfl) ?_
    refine ggX_81 X E hP inX4_tellItem_X4 lkX4_tellItem_1 dX4_tellItem_45 ?_
    refine lv_iconst (v := 0) hx hb dX4_tellItem_48 (by decide) ?_
    refine giX_81 X E hP (by decide) dX4_tellItem_49 ?_
    refine lv_aload_n hx hb dX4_tellItem_50 rfl (lv_at hl 0 rfl) ?_
    refine ggX_81 X E hP inX4_tellItem_X4 lkX4_tellItem_1 dX4_tellItem_51 ?_
    refine lv_iconst (v := 1) hx hb dX4_tellItem_54 (by decide) ?_
    refine giX_81 X E hP (by decide) dX4_tellItem_55 ?_
    refine lv_aload_n hx hb dX4_tellItem_56 rfl (lv_at hl 0 rfl) ?_
    refine ggX_81 X E hP inX4_tellItem_X4 lkX4_tellItem_1 dX4_tellItem_57 ?_
    refine lv_iconst (v := 2) hx hb dX4_tellItem_60 (by decide) ?_
    refine giX_81 X E hP (by decide) dX4_tellItem_61 ?_
    refine lv_aload_n hx hb dX4_tellItem_62 rfl (lv_at hl 0 rfl) ?_
    refine ggX_81 X E hP inX4_tellItem_X4 lkX4_tellItem_1 dX4_tellItem_63 ?_
    refine lv_iconst (v := 3) hx hb dX4_tellItem_66 (by decide) ?_
    refine giX_81 X E hP (by decide) dX4_tellItem_67 ?_
    refine lv_aload_n hx hb dX4_tellItem_68 rfl (lv_at hl 0 rfl) ?_
    refine ggX_81 X E hP inX4_tellItem_X4 lkX4_tellItem_1 dX4_tellItem_69 ?_
    refine lv_iconst (v := 4) hx hb dX4_tellItem_72 (by decide) ?_
    refine giX_81 X E hP (by decide) dX4_tellItem_73 ?_
    refine lv_aload_n hx hb dX4_tellItem_74 rfl (lv_at hl 0 rfl) ?_
    refine ggX_81 X E hP inX4_tellItem_X4 lkX4_tellItem_1 dX4_tellItem_75 ?_
    refine lv_iconst (v := 5) hx hb dX4_tellItem_78 (by decide) ?_
    refine giX_81 X E hP (by decide) dX4_tellItem_79 ?_
    obtain ⟨u2, h3, hf⟩ := g_bind hf
    refine g_vv (rest := []) X E hP hS (tcX3_add_told l G _ _ _ _ _ _ _ h3) (g_cwV X gX4_tellItem_X3_add rfl hdX3_add ⟨Nat.le_of_ble_eq_true rfl, Nat.le_of_ble_eq_true rfl⟩) (rcX_told E hP) rfl hl.1 rfl (Nat.le_of_ble_eq_true rfl) dX4_tellItem_80 ⟨Nat.le_refl _, Nat.le_refl _⟩ (fun H locs hP hS => ?_)
    refine lv_goto (tgt := 228) hx hb dX4_tellItem_83 (by decide) ?_
    obtain rfl := g_some hf
    exact g_rv X E hP hS dX4_tellItem_228
  have hf := g_iff hf c1
  by_cases c4 : a1 = (1 : Int32)
  · have hf := g_ift hf c4
    refine g_tin (k := (1 : Int32)) (off := 85) (tgt := 86) hx hb dX4_tellItem_1 c4 (by decide) ?_
    refine lv_aload_n hx hb dX4_tellItem_86 rfl (lv_at hl 0 rfl) ?_
    refine ggX_80 X E hP inX4_tellItem_X4 lkX4_tellItem_0 dX4_tellItem_87 ?_
    refine lv_aload_n hx hb dX4_tellItem_90 rfl (lv_at hl 0 rfl) ?_
    refine ggX_81 X E hP inX4_tellItem_X4 lkX4_tellItem_1 dX4_tellItem_91 ?_
    refine lv_iconst (v := 0) hx hb dX4_tellItem_94 (by decide) ?_
    refine giX_81 X E hP (by decide) dX4_tellItem_95 ?_
    refine lv_bipush (v := 6) hx hb dX4_tellItem_96 (by decide) ?_
    refine lv_aload_n hx hb dX4_tellItem_98 rfl (lv_at hl 0 rfl) ?_
    refine ggX_81 X E hP inX4_tellItem_X4 lkX4_tellItem_1 dX4_tellItem_99 ?_
    refine lv_iconst (v := 1) hx hb dX4_tellItem_102 (by decide) ?_
    refine giX_81 X E hP (by decide) dX4_tellItem_103 ?_
    obtain ⟨u5, h6, hf⟩ := g_bind hf
    refine g_vv (rest := []) X E hP hS (tcX3_put_told l G _ _ _ _ h6) (g_cwV X gX4_tellItem_X3_put rfl hdX3_put ⟨Nat.le_of_ble_eq_true rfl, Nat.le_of_ble_eq_true rfl⟩) (rcX_told E hP) rfl hl.1 rfl (Nat.le_of_ble_eq_true rfl) dX4_tellItem_104 ⟨Nat.le_refl _, Nat.le_refl _⟩ (fun H locs hP hS => ?_)
    refine lv_goto (tgt := 228) hx hb dX4_tellItem_107 (by decide) ?_
    obtain rfl := g_some hf
    exact g_rv X E hP hS dX4_tellItem_228
  have hf := g_iff hf c4
  by_cases c7 : a1 = (2 : Int32)
  · have hf := g_ift hf c7
    refine g_tin (k := (2 : Int32)) (off := 109) (tgt := 110) hx hb dX4_tellItem_1 c7 (by decide) ?_
    refine lv_aload_n hx hb dX4_tellItem_110 rfl (lv_at hl 0 rfl) ?_
    refine ggX_80 X E hP inX4_tellItem_X4 lkX4_tellItem_0 dX4_tellItem_111 ?_
    refine lv_aload_n hx hb dX4_tellItem_114 rfl (lv_at hl 0 rfl) ?_
    refine ggX_81 X E hP inX4_tellItem_X4 lkX4_tellItem_1 dX4_tellItem_115 ?_
    refine lv_iconst (v := 0) hx hb dX4_tellItem_118 (by decide) ?_
    refine giX_81 X E hP (by decide) dX4_tellItem_119 ?_
    refine lv_bipush (v := 7) hx hb dX4_tellItem_120 (by decide) ?_
    refine lv_aload_n hx hb dX4_tellItem_122 rfl (lv_at hl 0 rfl) ?_
    refine ggX_81 X E hP inX4_tellItem_X4 lkX4_tellItem_1 dX4_tellItem_123 ?_
    refine lv_iconst (v := 1) hx hb dX4_tellItem_126 (by decide) ?_
    refine giX_81 X E hP (by decide) dX4_tellItem_127 ?_
    obtain ⟨u8, h9, hf⟩ := g_bind hf
    refine g_vv (rest := []) X E hP hS (tcX3_put_told l G _ _ _ _ h9) (g_cwV X gX4_tellItem_X3_put rfl hdX3_put ⟨Nat.le_of_ble_eq_true rfl, Nat.le_of_ble_eq_true rfl⟩) (rcX_told E hP) rfl hl.1 rfl (Nat.le_of_ble_eq_true rfl) dX4_tellItem_128 ⟨Nat.le_refl _, Nat.le_refl _⟩ (fun H locs hP hS => ?_)
    refine lv_goto (tgt := 228) hx hb dX4_tellItem_131 (by decide) ?_
    obtain rfl := g_some hf
    exact g_rv X E hP hS dX4_tellItem_228
  have hf := g_iff hf c7
  by_cases c10 : a1 = (3 : Int32)
  · have hf := g_ift hf c10
    refine g_tin (k := (3 : Int32)) (off := 133) (tgt := 134) hx hb dX4_tellItem_1 c10 (by decide) ?_
    refine lv_aload_n hx hb dX4_tellItem_134 rfl (lv_at hl 0 rfl) ?_
    refine ggX_80 X E hP inX4_tellItem_X4 lkX4_tellItem_0 dX4_tellItem_135 ?_
    refine lv_bipush (v := 8) hx hb dX4_tellItem_138 (by decide) ?_
    refine lv_aload_n hx hb dX4_tellItem_140 rfl (lv_at hl 0 rfl) ?_
    refine ggX_81 X E hP inX4_tellItem_X4 lkX4_tellItem_1 dX4_tellItem_141 ?_
    refine lv_iconst (v := 0) hx hb dX4_tellItem_144 (by decide) ?_
    refine giX_81 X E hP (by decide) dX4_tellItem_145 ?_
    obtain ⟨u11, h12, hf⟩ := g_bind hf
    refine g_vv (rest := []) X E hP hS (tcX3_putSetting_told l G _ _ _ h12) (g_cwV X gX4_tellItem_X3_putSetting rfl hdX3_putSetting ⟨Nat.le_of_ble_eq_true rfl, Nat.le_of_ble_eq_true rfl⟩) (rcX_told E hP) rfl hl.1 rfl (Nat.le_of_ble_eq_true rfl) dX4_tellItem_146 ⟨Nat.le_refl _, Nat.le_refl _⟩ (fun H locs hP hS => ?_)
    refine lv_goto (tgt := 228) hx hb dX4_tellItem_149 (by decide) ?_
    obtain rfl := g_some hf
    exact g_rv X E hP hS dX4_tellItem_228
  have hf := g_iff hf c10
  by_cases c13 : a1 = (4 : Int32)
  · have hf := g_ift hf c13
    refine g_tin (k := (4 : Int32)) (off := 151) (tgt := 152) hx hb dX4_tellItem_1 c13 (by decide) ?_
    refine lv_aload_n hx hb dX4_tellItem_152 rfl (lv_at hl 0 rfl) ?_
    refine ggX_80 X E hP inX4_tellItem_X4 lkX4_tellItem_0 dX4_tellItem_153 ?_
    refine lv_bipush (v := 9) hx hb dX4_tellItem_156 (by decide) ?_
    refine lv_aload_n hx hb dX4_tellItem_158 rfl (lv_at hl 0 rfl) ?_
    refine ggX_81 X E hP inX4_tellItem_X4 lkX4_tellItem_1 dX4_tellItem_159 ?_
    refine lv_iconst (v := 0) hx hb dX4_tellItem_162 (by decide) ?_
    refine giX_81 X E hP (by decide) dX4_tellItem_163 ?_
    obtain ⟨u14, h15, hf⟩ := g_bind hf
    refine g_vv (rest := []) X E hP hS (tcX3_putSetting_told l G _ _ _ h15) (g_cwV X gX4_tellItem_X3_putSetting rfl hdX3_putSetting ⟨Nat.le_of_ble_eq_true rfl, Nat.le_of_ble_eq_true rfl⟩) (rcX_told E hP) rfl hl.1 rfl (Nat.le_of_ble_eq_true rfl) dX4_tellItem_164 ⟨Nat.le_refl _, Nat.le_refl _⟩ (fun H locs hP hS => ?_)
    refine lv_goto (tgt := 228) hx hb dX4_tellItem_167 (by decide) ?_
    obtain rfl := g_some hf
    exact g_rv X E hP hS dX4_tellItem_228
  have hf := g_iff hf c13
  by_cases c16 : a1 = (5 : Int32)
  · have hf := g_ift hf c16
    refine g_tin (k := (5 : Int32)) (off := 169) (tgt := 170) hx hb dX4_tellItem_1 c16 (by decide) ?_
    refine lv_aload_n hx hb dX4_tellItem_170 rfl (lv_at hl 0 rfl) ?_
    refine ggX_80 X E hP inX4_tellItem_X4 lkX4_tellItem_0 dX4_tellItem_171 ?_
    refine lv_bipush (v := 10) hx hb dX4_tellItem_174 (by decide) ?_
    refine lv_aload_n hx hb dX4_tellItem_176 rfl (lv_at hl 0 rfl) ?_
    refine ggX_81 X E hP inX4_tellItem_X4 lkX4_tellItem_1 dX4_tellItem_177 ?_
    refine lv_iconst (v := 0) hx hb dX4_tellItem_180 (by decide) ?_
    refine giX_81 X E hP (by decide) dX4_tellItem_181 ?_
    obtain ⟨u17, h18, hf⟩ := g_bind hf
    refine g_vv (rest := []) X E hP hS (tcX3_putSetting_told l G _ _ _ h18) (g_cwV X gX4_tellItem_X3_putSetting rfl hdX3_putSetting ⟨Nat.le_of_ble_eq_true rfl, Nat.le_of_ble_eq_true rfl⟩) (rcX_told E hP) rfl hl.1 rfl (Nat.le_of_ble_eq_true rfl) dX4_tellItem_182 ⟨Nat.le_refl _, Nat.le_refl _⟩ (fun H locs hP hS => ?_)
    refine lv_goto (tgt := 228) hx hb dX4_tellItem_185 (by decide) ?_
    obtain rfl := g_some hf
    exact g_rv X E hP hS dX4_tellItem_228
  have hf := g_iff hf c16
  refine lv_tableOut (tgt := 188) hx hb dX4_tellItem_1 (by have e0 := lv_neT (a := 0) c1 (by decide); have e1 := lv_neT (a := 1) c4 (by decide); have e2 := lv_neT (a := 2) c7 (by decide); have e3 := lv_neT (a := 3) c10 (by decide); have e4 := lv_neT (a := 4) c13 (by decide); have e5 := lv_neT (a := 5) c16 (by decide); omega) (by decide) ?_
  refine lv_aload_n hx hb dX4_tellItem_188 rfl (lv_at hl 0 rfl) ?_
  refine ggX_80 X E hP inX4_tellItem_X4 lkX4_tellItem_0 dX4_tellItem_189 ?_
  refine lv_aload_n hx hb dX4_tellItem_192 rfl (lv_at hl 0 rfl) ?_
  refine ggX_81 X E hP inX4_tellItem_X4 lkX4_tellItem_1 dX4_tellItem_193 ?_
  refine lv_iconst (v := 0) hx hb dX4_tellItem_196 (by decide) ?_
  refine giX_81 X E hP (by decide) dX4_tellItem_197 ?_
  refine lv_iconst (v := 2) hx hb dX4_tellItem_198 (by decide) ?_
  refine lv_aload_n hx hb dX4_tellItem_199 rfl (lv_at hl 0 rfl) ?_
  refine ggX_81 X E hP inX4_tellItem_X4 lkX4_tellItem_1 dX4_tellItem_200 ?_
  refine lv_iconst (v := 1) hx hb dX4_tellItem_203 (by decide) ?_
  refine giX_81 X E hP (by decide) dX4_tellItem_204 ?_
  obtain ⟨u19, h20, hf⟩ := g_bind hf
  refine g_vv (rest := []) X E hP hS (tcX3_put_told l G _ _ _ _ h20) (g_cwV X gX4_tellItem_X3_put rfl hdX3_put ⟨Nat.le_of_ble_eq_true rfl, Nat.le_of_ble_eq_true rfl⟩) (rcX_told E hP) rfl hl.1 rfl (Nat.le_of_ble_eq_true rfl) dX4_tellItem_205 ⟨Nat.le_refl _, Nat.le_refl _⟩ (fun H locs hP hS => ?_)
  refine lv_aload_n hx hb dX4_tellItem_208 rfl (lv_at hl 0 rfl) ?_
  refine ggX_80 X E hP inX4_tellItem_X4 lkX4_tellItem_0 dX4_tellItem_209 ?_
  refine lv_aload_n hx hb dX4_tellItem_212 rfl (lv_at hl 0 rfl) ?_
  refine ggX_81 X E hP inX4_tellItem_X4 lkX4_tellItem_1 dX4_tellItem_213 ?_
  refine lv_iconst (v := 0) hx hb dX4_tellItem_216 (by decide) ?_
  refine giX_81 X E hP (by decide) dX4_tellItem_217 ?_
  refine lv_iconst (v := 3) hx hb dX4_tellItem_218 (by decide) ?_
  refine lv_aload_n hx hb dX4_tellItem_219 rfl (lv_at hl 0 rfl) ?_
  refine ggX_81 X E hP inX4_tellItem_X4 lkX4_tellItem_1 dX4_tellItem_220 ?_
  refine lv_iconst (v := 2) hx hb dX4_tellItem_223 (by decide) ?_
  refine giX_81 X E hP (by decide) dX4_tellItem_224 ?_
  obtain ⟨u21, h22, hf⟩ := g_bind hf
  refine g_vv (rest := []) X E hP hS (tcX3_put_told l G _ _ _ _ h22) (g_cwV X gX4_tellItem_X3_put rfl hdX3_put ⟨Nat.le_of_ble_eq_true rfl, Nat.le_of_ble_eq_true rfl⟩) (rcX_told E hP) rfl hl.1 rfl (Nat.le_of_ble_eq_true rfl) dX4_tellItem_225 ⟨Nat.le_refl _, Nat.le_refl _⟩ (fun H locs hP hS => ?_)
  obtain rfl := g_some hf
  exact g_rv X E hP hS dX4_tellItem_228
theorem lkX4_faultIs_0 : Cond.fieldLink RX4 27 RX4 "faultAt" "I" ∈ wsX4_faultIs := by decide +kernel
theorem inX4_faultIs_X4 : ∀ w ∈ wsX40, w ∈ wsX4_faultIs := by decide +kernel
def fX4_faultIs (S : GS) (a1 : Int32) : Option (Int32 × GS) :=
  some ((0 : Int32), (gU1 S 85 a1))
set_option maxHeartbeats 4000000 in
set_option maxRecDepth 100000 in
theorem tcX4_faultIs (l : Launch) (G : GP) (S : GS) (a1 : Int32) {R : (Int32 × GS)} (hf : fX4_faultIs S a1 = some R) : CI l yX4_faultIs wsX4_faultIs 0 0 [.ref (ga G 95), .int a1] WX G S R.1 R.2 := by
  refine g_met RX4 (cc := cX4_faultIs) (nL := 2) (ret := (some .boolean)) (by decide) rfl rfl (Nat.le_of_ble_eq_true rfl) ?_
  intro p e s m below meth c ls X E hP hS hl
  have hl : lv_has ls 2 [(0, .ref (ga G 95)), (1, .int a1)] := hl
  obtain ⟨hx, hb, -, -, hown, hts, -⟩ := id X
  rw [fX4_faultIs] at hf
  refine lv_aload_n hx hb dX4_faultIs_0 rfl (lv_at hl 0 rfl) ?_
  refine lv_iload_n hx hb dX4_faultIs_1 rfl (lv_at hl 1 rfl) ?_
  refine gpX_85 X E hP hS inX4_faultIs_X4 lkX4_faultIs_0 dX4_faultIs_2 (fun H locs hP hS => ?_)
  refine lv_iconst (v := 0) hx hb dX4_faultIs_5 (by decide) ?_
  obtain rfl := g_some hf
  exact g_rz (v := (0 : Int32)) X E hP hS rfl dX4_faultIs_6
theorem lkX4_sign_0 : Cond.fieldLink RX4 47 RX4 "at" "I" ∈ wsX4_sign := by decide +kernel
theorem inX4_sign_X4 : ∀ w ∈ wsX40, w ∈ wsX4_sign := by decide +kernel
def fX4_sign (S : GS) (a1 : Int32) : Option (Int32 × GS) :=
  (fX4_letterAt S (S.1 84)).bind fun u1 =>
  if u1 = a1 then
    some ((1 : Int32), (gU1 S 84 ((S.1 84) + (1 : Int32))))
  else
    (fX4_faultIs S (S.1 84)).bind fun u4 =>
    if ¬ (u4.1 = 0 ∨ u4.1 = 1) then none else
    some (u4.1, u4.2)
set_option maxHeartbeats 4000000 in
set_option maxRecDepth 100000 in
theorem tcX4_sign (l : Launch) (G : GP) (S : GS) (a1 : Int32) {R : (Int32 × GS)} (hf : fX4_sign S a1 = some R) : CI l yX4_sign wsX4_sign 1 21 [.ref (ga G 95), .int a1] WX G S R.1 R.2 := by
  refine g_met RX4 (cc := cX4_sign) (nL := 2) (ret := (some .boolean)) (by decide) rfl rfl (Nat.le_of_ble_eq_true rfl) ?_
  intro p e s m below meth c ls X E hP hS hl
  have hl : lv_has ls 2 [(0, .ref (ga G 95)), (1, .int a1)] := hl
  obtain ⟨hx, hb, -, -, hown, hts, -⟩ := id X
  rw [fX4_sign] at hf
  refine lv_aload_n hx hb dX4_sign_0 rfl (lv_at hl 0 rfl) ?_
  refine lv_aload_n hx hb dX4_sign_1 rfl (lv_at hl 0 rfl) ?_
  refine ggX_84 X E hP inX4_sign_X4 lkX4_sign_0 dX4_sign_2 ?_
  obtain ⟨u1, h2, hf⟩ := g_bind hf
  refine g_vi (rest := []) X E hP hS (tcX4_letterAt l G _ _ h2) (g_cwV X gX4_sign_X4_letterAt rfl hdX4_letterAt ⟨Nat.le_of_ble_eq_true rfl, Nat.le_of_ble_eq_true rfl⟩) (rcX_reader E hP) rfl hl.1 rfl (Nat.le_of_ble_eq_true rfl) dX4_sign_5 ⟨Nat.le_refl _, Nat.le_refl _⟩ (fun H locs hP hS => ?_)
  refine lv_iload_n hx hb dX4_sign_8 rfl (lv_at hl 1 rfl) ?_
  refine lv_icmp_eq (tgt := 21) hx hb dX4_sign_9 (by decide) (fun c3 => ?_) (fun c3 => ?_)
  · have hf := g_ift hf c3
    refine lv_aload_n hx hb dX4_sign_21 rfl (lv_at hl 0 rfl) ?_
    refine lv_dup hx hb dX4_sign_22 rfl ?_
    refine ggX_84 X E hP inX4_sign_X4 lkX4_sign_0 dX4_sign_23 ?_
    refine lv_iconst (v := 1) hx hb dX4_sign_26 (by decide) ?_
    refine lv_iadd hx hb dX4_sign_27 ?_
    refine gpX_84 X E hP hS inX4_sign_X4 lkX4_sign_0 dX4_sign_28 (fun H locs hP hS => ?_)
    refine lv_iconst (v := 1) hx hb dX4_sign_31 (by decide) ?_
    obtain rfl := g_some hf
    exact g_rz (v := (1 : Int32)) X E hP hS rfl dX4_sign_32
  · have hf := g_iff hf c3
    refine lv_aload_n hx hb dX4_sign_12 rfl (lv_at hl 0 rfl) ?_
    refine lv_aload_n hx hb dX4_sign_13 rfl (lv_at hl 0 rfl) ?_
    refine ggX_84 X E hP inX4_sign_X4 lkX4_sign_0 dX4_sign_14 ?_
    obtain ⟨u4, h5, hf⟩ := g_bind hf
    refine g_vi (rest := []) X E hP hS (tcX4_faultIs l G _ _ h5) (g_cwV X gX4_sign_X4_faultIs rfl hdX4_faultIs ⟨Nat.le_of_ble_eq_true rfl, Nat.le_of_ble_eq_true rfl⟩) (rcX_reader E hP) rfl hl.1 rfl (Nat.le_of_ble_eq_true rfl) dX4_sign_17 ⟨Nat.le_refl _, Nat.le_refl _⟩ (fun H locs hP hS => ?_)
    obtain ⟨z6, hf⟩ := g_if hf
    obtain rfl := g_some hf
    exact g_rz (v := u4.1) X E hP hS (g_bool z6) dX4_sign_20
def fX3_hasSetUp_told (S : GS) (a1 : Int32) : Option Int32 :=
  if a1 < 0 then
    some (0 : Int32)
  else
    if (S.1 34) ≤ a1 then
      some (0 : Int32)
    else
      some (1 : Int32)
set_option maxHeartbeats 4000000 in
set_option maxRecDepth 100000 in
theorem tcX3_hasSetUp_told (l : Launch) (G : GP) (S : GS) (a1 : Int32) {R : Int32} (hf : fX3_hasSetUp_told S a1 = some R) : CI l yX3_hasSetUp wsX3_hasSetUp 0 0 [.ref (ga G 47), .int a1] WX G S R S := by
  refine g_met RX3 (cc := cX3_hasSetUp) (nL := 2) (ret := (some .boolean)) (by decide) rfl rfl (Nat.le_of_ble_eq_true rfl) ?_
  intro p e s m below meth c ls X E hP hS hl
  have hl : lv_has ls 2 [(0, .ref (ga G 47)), (1, .int a1)] := hl
  obtain ⟨hx, hb, -, -, hown, hts, -⟩ := id X
  rw [fX3_hasSetUp_told] at hf
  refine lv_iload_n hx hb dX3_hasSetUp_0 rfl (lv_at hl 1 rfl) ?_
  refine lv_if_lt (tgt := 16) hx hb dX3_hasSetUp_1 (by decide) (fun c1 => ?_) (fun c1 => ?_)
  · have hf := g_ift hf c1
    refine lv_iconst (v := 0) hx hb dX3_hasSetUp_16 (by decide) ?_
    obtain rfl := g_some hf
    exact g_rz (v := (0 : Int32)) X E hP hS rfl dX3_hasSetUp_17
  · have hf := g_iff hf c1
    refine lv_iload_n hx hb dX3_hasSetUp_4 rfl (lv_at hl 1 rfl) ?_
    refine lv_aload_n hx hb dX3_hasSetUp_5 rfl (lv_at hl 0 rfl) ?_
    refine ggX_34 X E hP inX3_hasSetUp_X3 lkX3_hasSetUp_0 dX3_hasSetUp_6 ?_
    refine lv_icmp_ge (tgt := 16) hx hb dX3_hasSetUp_9 (by decide) (fun c2 => ?_) (fun c2 => ?_)
    · have hf := g_ift hf c2
      refine lv_iconst (v := 0) hx hb dX3_hasSetUp_16 (by decide) ?_
      obtain rfl := g_some hf
      exact g_rz (v := (0 : Int32)) X E hP hS rfl dX3_hasSetUp_17
    · have hf := g_iff hf c2
      refine lv_iconst (v := 1) hx hb dX3_hasSetUp_12 (by decide) ?_
      refine lv_goto (tgt := 17) hx hb dX3_hasSetUp_13 (by decide) ?_
      obtain rfl := g_some hf
      exact g_rz (v := (1 : Int32)) X E hP hS rfl dX3_hasSetUp_17
theorem lkX4_mayStand_0 : Cond.fieldLink RX4 101 "BackToTheFirstStone$Reader" "NUMBERS" "[I" ∈ wsX4_mayStand := by decide +kernel
theorem lkX4_mayStand_1 : Cond.fieldLink RX4 12 RX4 "told" "LBackToTheFirstStone$Loop;" ∈ wsX4_mayStand := by decide +kernel
theorem inX4_mayStand_X4 : ∀ w ∈ wsX40, w ∈ wsX4_mayStand := by decide +kernel
def fX4_mayStand (S : GS) (a1 : Int32) (a2 : Int32) : Option Int32 :=
  if a1 < 0 then
    some (0 : Int32)
  else
    if a1 < (16 : Int32) then
      if a1 < 0 ∨ 16 ≤ (a1).toNatClampNeg then none else
      if (gTb 4 (a1).toNatClampNeg) = (11 : Int32) then
        (fX3_hasSetUp_told S a2).bind fun u9 =>
        if ¬ (u9 = 0 ∨ u9 = 1) then none else
        some u9
      else
        if a1 < 0 ∨ 16 ≤ (a1).toNatClampNeg then none else
        (fX3_fits S (gTb 4 (a1).toNatClampNeg) a2).bind fun u6 =>
        if ¬ (u6 = 0 ∨ u6 = 1) then none else
        some u6
    else
      some (0 : Int32)
set_option maxHeartbeats 4000000 in
set_option maxRecDepth 100000 in
theorem tcX4_mayStand (l : Launch) (G : GP) (S : GS) (a1 : Int32) (a2 : Int32) {R : Int32} (hf : fX4_mayStand S a1 a2 = some R) : CI l yX4_mayStand wsX4_mayStand 1 21 [.ref (ga G 95), .int a1, .int a2] WX G S R S := by
  refine g_met RX4 (cc := cX4_mayStand) (nL := 3) (ret := (some .boolean)) (by decide) rfl rfl (Nat.le_of_ble_eq_true rfl) ?_
  intro p e s m below meth c ls X E hP hS hl
  have hl : lv_has ls 3 [(0, .ref (ga G 95)), (1, .int a1), (2, .int a2)] := hl
  obtain ⟨hx, hb, -, -, hown, hts, -⟩ := id X
  rw [fX4_mayStand] at hf
  refine lv_iload_n hx hb dX4_mayStand_0 rfl (lv_at hl 1 rfl) ?_
  refine lv_if_lt (tgt := 12) hx hb dX4_mayStand_1 (by decide) (fun c1 => ?_) (fun c1 => ?_)
  · have hf := g_ift hf c1
    refine lv_iconst (v := 0) hx hb dX4_mayStand_12 (by decide) ?_
    obtain rfl := g_some hf
    exact g_rz (v := (0 : Int32)) X E hP hS rfl dX4_mayStand_13
  · have hf := g_iff hf c1
    refine lv_iload_n hx hb dX4_mayStand_4 rfl (lv_at hl 1 rfl) ?_
    refine g_tget X E hS 4 rfl lkX4_mayStand_0 dX4_mayStand_5 ?_
    refine g_tln X E hS 4 rfl (v := (16 : Int32)) rfl dX4_mayStand_8 ?_
    refine lv_icmp_lt (tgt := 14) hx hb dX4_mayStand_9 (by decide) (fun c2 => ?_) (fun c2 => ?_)
    · have hf := g_ift hf c2
      refine g_tget X E hS 4 rfl lkX4_mayStand_0 dX4_mayStand_14 ?_
      refine lv_iload_n hx hb dX4_mayStand_17 rfl (lv_at hl 1 rfl) ?_
      obtain ⟨b3, hf⟩ := g_if hf
      refine g_tld X E hS 4 rfl b3 dX4_mayStand_18 ?_
      refine lv_bipush (v := 11) hx hb dX4_mayStand_19 (by decide) ?_
      refine lv_icmp_ne (tgt := 35) hx hb dX4_mayStand_21 (by decide) (fun c4 => ?_) (fun c4 => ?_)
      · have hf := g_iff hf c4
        refine g_tget X E hS 4 rfl lkX4_mayStand_0 dX4_mayStand_35 ?_
        refine lv_iload_n hx hb dX4_mayStand_38 rfl (lv_at hl 1 rfl) ?_
        obtain ⟨b5, hf⟩ := g_if hf
        refine g_tld X E hS 4 rfl b5 dX4_mayStand_39 ?_
        refine lv_iload_n hx hb dX4_mayStand_40 rfl (lv_at hl 2 rfl) ?_
        obtain ⟨u6, h7, hf⟩ := g_bind hf
        refine g_si (rest := []) X E hP hS (tcX3_fits l G _ _ _ h7) (g_cwS X gX4_mayStand_X3_fits rfl hdX3_fits ⟨Nat.le_of_ble_eq_true rfl, Nat.le_of_ble_eq_true rfl⟩) rfl hl.1 rfl (Nat.le_of_ble_eq_true rfl) dX4_mayStand_41 ⟨Nat.le_refl _, Nat.le_refl _⟩ (fun H locs hP hS => ?_)
        obtain ⟨z8, hf⟩ := g_if hf
        obtain rfl := g_some hf
        exact g_rz (v := u6) X E hP hS (g_bool z8) dX4_mayStand_44
      · have hf := g_ift hf c4
        refine lv_aload_n hx hb dX4_mayStand_24 rfl (lv_at hl 0 rfl) ?_
        refine ggX_80 X E hP inX4_mayStand_X4 lkX4_mayStand_1 dX4_mayStand_25 ?_
        refine lv_iload_n hx hb dX4_mayStand_28 rfl (lv_at hl 2 rfl) ?_
        obtain ⟨u9, h10, hf⟩ := g_bind hf
        refine g_vi (rest := []) X E hP hS (tcX3_hasSetUp_told l G _ _ h10) (g_cwV X gX4_mayStand_X3_hasSetUp rfl hdX3_hasSetUp ⟨Nat.le_of_ble_eq_true rfl, Nat.le_of_ble_eq_true rfl⟩) (rcX_told E hP) rfl hl.1 rfl (Nat.le_of_ble_eq_true rfl) dX4_mayStand_29 ⟨Nat.le_refl _, Nat.le_refl _⟩ (fun H locs hP hS => ?_)
        refine lv_goto (tgt := 44) hx hb dX4_mayStand_32 (by decide) ?_
        obtain ⟨z11, hf⟩ := g_if hf
        obtain rfl := g_some hf
        exact g_rz (v := u9) X E hP hS (g_bool z11) dX4_mayStand_44
    · have hf := g_iff hf c2
      refine lv_iconst (v := 0) hx hb dX4_mayStand_12 (by decide) ?_
      obtain rfl := g_some hf
      exact g_rz (v := (0 : Int32)) X E hP hS rfl dX4_mayStand_13
theorem lkX4_number_0 : Cond.fieldLink RX4 47 RX4 "at" "I" ∈ wsX4_number := by decide +kernel
theorem lkX4_number_1 : Cond.fieldLink RX4 18 RX4 "numbers" "[I" ∈ wsX4_number := by decide +kernel
theorem inX4_number_X4 : ∀ w ∈ wsX40, w ∈ wsX4_number := by decide +kernel
def fX4_number_8 : Nat → GS → Int32 → Int32 → Option (Int32 × GS)
  | 0, _, _, _ => none
  | fu + 1, S, v3, v4 =>
    if (4 : Int32) ≤ ((S.1 84) - v3) then
      some (v4, S)
    else
      (fX4_letterAt S (S.1 84)).bind fun u2 =>
      if u2 < (48 : Int32) then
        some (v4, S)
      else
        (fX4_letterAt S (S.1 84)).bind fun u5 =>
        if (57 : Int32) < u5 then
          some (v4, S)
        else
          (fX4_letterAt S (S.1 84)).bind fun u8 =>
          fX4_number_8 fu (gU1 S 84 ((S.1 84) + (1 : Int32))) v3 ((((10 : Int32) * v4) + u8) - (48 : Int32))
set_option maxHeartbeats 4000000 in
set_option maxRecDepth 100000 in
theorem bX4_number_8 {p : Program} {l : Launch} {e : Env} {s : State} {m : MethodId} {args : Array Value} {below : List Frame} {meth : Method} {c : Code} {Q : State → Prop} {G : GP} (X : GX p s m meth c args cX4_number 6 (some .boolean) wsX4_number RX4) (E : gE WX G s) {v1 : Int32} {v2 : Int32} : ∀ (fu : Nat) (S : GS) (v3 : Int32) (v4 : Int32) (R : (Int32 × GS)) (H : Heap) (locs : List Loc) (ls : Array Slot) (_ : fX4_number_8 fu S v3 v4 = some R) (_ : va_P (gD G) vwCl (WX G S ++ gF G) H) (_ : va_S (gA G) s.heap H locs) (_ : lv_has ls 6 [(0, .ref (ga G 95)), (1, .int v1), (2, .int v2), (3, .int v3), (4, .int v4)]) (_ : ∀ (H : Heap) (locs : List Loc) (ls : Array Slot), va_P (gD G) vwCl (WX G R.2 ++ gF G) H → va_S (gA G) s.heap H locs → lv_has ls 6 [(0, .ref (ga G 95)), (1, .int v1), (2, .int v2), (3, .int v3), (4, .int R.1)] → W p l e (gR 2 43) s m args below meth c H locs 0 0 Q (F0 m 76 ls [])), W p l e (gR 2 43) s m args below meth c H locs 0 0 Q (F0 m 8 ls []) := by
  obtain ⟨hx, hb, -, -, hown, hts, -⟩ := id X
  intro fu
  induction fu with
  | zero =>
    intro S v3 v4 R H locs ls hf
    cases (show (none : Option (Int32 × GS)) = some R from hf)
  | succ fu ih =>
    intro S v3 v4 R H locs ls hf hP hS hl kk
    rw [fX4_number_8] at hf
    refine lv_aload_n hx hb dX4_number_8 rfl (lv_at hl 0 rfl) ?_
    refine ggX_84 X E hP inX4_number_X4 lkX4_number_0 dX4_number_9 ?_
    refine lv_iload_n hx hb dX4_number_12 rfl (lv_at hl 3 rfl) ?_
    refine lv_isub hx hb dX4_number_13 ?_
    refine lv_iconst (v := 4) hx hb dX4_number_14 (by decide) ?_
    refine lv_icmp_ge (tgt := 76) hx hb dX4_number_15 (by decide) (fun c1 => ?_) (fun c1 => ?_)
    · have hf := g_ift hf c1
      obtain rfl := g_some hf
      exact kk _ _ _ hP hS (lv_sub hl [0, 1, 2, 3, 4] rfl)
    · have hf := g_iff hf c1
      refine lv_aload_n hx hb dX4_number_18 rfl (lv_at hl 0 rfl) ?_
      refine lv_aload_n hx hb dX4_number_19 rfl (lv_at hl 0 rfl) ?_
      refine ggX_84 X E hP inX4_number_X4 lkX4_number_0 dX4_number_20 ?_
      obtain ⟨u2, h3, hf⟩ := g_bind hf
      refine g_vi (rest := []) X E hP hS (tcX4_letterAt l G _ _ h3) (g_cwV X gX4_number_X4_letterAt rfl hdX4_letterAt ⟨Nat.le_of_ble_eq_true rfl, Nat.le_of_ble_eq_true rfl⟩) (rcX_reader E hP) rfl hl.1 rfl (Nat.le_of_ble_eq_true rfl) dX4_number_23 ⟨Nat.le_refl _, Nat.le_refl _⟩ (fun H locs hP hS => ?_)
      refine lv_bipush (v := 48) hx hb dX4_number_26 (by decide) ?_
      refine lv_icmp_lt (tgt := 76) hx hb dX4_number_28 (by decide) (fun c4 => ?_) (fun c4 => ?_)
      · have hf := g_ift hf c4
        obtain rfl := g_some hf
        exact kk _ _ _ hP hS (lv_sub hl [0, 1, 2, 3, 4] rfl)
      · have hf := g_iff hf c4
        refine lv_aload_n hx hb dX4_number_31 rfl (lv_at hl 0 rfl) ?_
        refine lv_aload_n hx hb dX4_number_32 rfl (lv_at hl 0 rfl) ?_
        refine ggX_84 X E hP inX4_number_X4 lkX4_number_0 dX4_number_33 ?_
        obtain ⟨u5, h6, hf⟩ := g_bind hf
        refine g_vi (rest := []) X E hP hS (tcX4_letterAt l G _ _ h6) (g_cwV X gX4_number_X4_letterAt rfl hdX4_letterAt ⟨Nat.le_of_ble_eq_true rfl, Nat.le_of_ble_eq_true rfl⟩) (rcX_reader E hP) rfl hl.1 rfl (Nat.le_of_ble_eq_true rfl) dX4_number_36 ⟨Nat.le_refl _, Nat.le_refl _⟩ (fun H locs hP hS => ?_)
        refine lv_bipush (v := 57) hx hb dX4_number_39 (by decide) ?_
        refine lv_icmp_gt (tgt := 76) hx hb dX4_number_41 (by decide) (fun c7 => ?_) (fun c7 => ?_)
        · have hf := g_ift hf c7
          obtain rfl := g_some hf
          exact kk _ _ _ hP hS (lv_sub hl [0, 1, 2, 3, 4] rfl)
        · have hf := g_iff hf c7
          refine lv_bipush (v := 10) hx hb dX4_number_44 (by decide) ?_
          refine lv_iload hx hb dX4_number_46 (lv_at hl 4 rfl) ?_
          refine lv_imul hx hb dX4_number_48 ?_
          refine lv_aload_n hx hb dX4_number_49 rfl (lv_at hl 0 rfl) ?_
          refine lv_aload_n hx hb dX4_number_50 rfl (lv_at hl 0 rfl) ?_
          refine ggX_84 X E hP inX4_number_X4 lkX4_number_0 dX4_number_51 ?_
          obtain ⟨u8, h9, hf⟩ := g_bind hf
          refine g_vi (rest := [.int ((10 : Int32) * v4)]) X E hP hS (tcX4_letterAt l G _ _ h9) (g_cwV X gX4_number_X4_letterAt rfl hdX4_letterAt ⟨Nat.le_of_ble_eq_true rfl, Nat.le_of_ble_eq_true rfl⟩) (rcX_reader E hP) rfl hl.1 rfl (Nat.le_of_ble_eq_true rfl) dX4_number_54 ⟨Nat.le_refl _, Nat.le_refl _⟩ (fun H locs hP hS => ?_)
          refine lv_iadd hx hb dX4_number_57 ?_
          refine lv_bipush (v := 48) hx hb dX4_number_58 (by decide) ?_
          refine lv_isub hx hb dX4_number_60 ?_
          refine lv_istore (lv' := [(4, .int ((((10 : Int32) * v4) + u8) - (48 : Int32))), (0, .ref (ga G 95)), (1, .int v1), (2, .int v2), (3, .int v3)]) hx hb dX4_number_61 hl (by decide) rfl (fun ls hl => ?_)
          refine lv_aload_n hx hb dX4_number_63 rfl (lv_at hl 1 rfl) ?_
          refine lv_dup hx hb dX4_number_64 rfl ?_
          refine ggX_84 X E hP inX4_number_X4 lkX4_number_0 dX4_number_65 ?_
          refine lv_iconst (v := 1) hx hb dX4_number_68 (by decide) ?_
          refine lv_iadd hx hb dX4_number_69 ?_
          refine gpX_84 X E hP hS inX4_number_X4 lkX4_number_0 dX4_number_70 (fun H locs hP hS => ?_)
          refine lv_goto (tgt := 8) hx hb dX4_number_73 (by decide) ?_
          exact ih _ _ _ _ _ _ _ hf hP hS (lv_sub hl [1, 2, 3, 4, 0] rfl) kk
def fX4_number_L127 (S : GS) (v3 : Int32) (v5 : Int32) : Option (Int32 × GS) :=
  if v5 = 0 then
    (fX4_faultIs S v3).bind fun u14 =>
    if u14.1 = 0 then
      some ((0 : Int32), u14.2)
    else
      some ((1 : Int32), u14.2)
  else
    some ((1 : Int32), S)
set_option maxHeartbeats 4000000 in
set_option maxRecDepth 100000 in
theorem bX4_number_L127 {p : Program} {l : Launch} {e : Env} {s : State} {m : MethodId} {args : Array Value} {below : List Frame} {meth : Method} {c : Code} {G : GP} (X : GX p s m meth c args cX4_number 6 (some .boolean) wsX4_number RX4) (E : gE WX G s) (S : GS) (v3 : Int32) (v5 : Int32) (R : (Int32 × GS)) (H : Heap) (locs : List Loc) (ls : Array Slot) (hf : fX4_number_L127 S v3 v5 = some R) (hP : va_P (gD G) vwCl (WX G S ++ gF G) H) (hS : va_S (gA G) s.heap H locs) (hl : lv_has ls 6 [(0, .ref (ga G 95)), (3, .int v3), (5, .int v5)]) : W p l e (gR 2 43) s m args below meth c H locs 0 0 (MQ below (gQi WX G R.1 R.2) args s 0 0 (gA G)) (F0 m 127 ls []) := by
  obtain ⟨hx, hb, -, -, hown, hts, -⟩ := id X
  rw [fX4_number_L127] at hf
  refine lv_iload hx hb dX4_number_127 (lv_at hl 2 rfl) ?_
  refine lv_if_ne (tgt := 140) hx hb dX4_number_129 (by decide) (fun c13 => ?_) (fun c13 => ?_)
  · have hf := g_iff hf c13
    refine lv_iconst (v := 1) hx hb dX4_number_140 (by decide) ?_
    refine lv_goto (tgt := 145) hx hb dX4_number_141 (by decide) ?_
    obtain rfl := g_some hf
    exact g_rz (v := (1 : Int32)) X E hP hS rfl dX4_number_145
  · have hf := g_ift hf c13
    refine lv_aload_n hx hb dX4_number_132 rfl (lv_at hl 0 rfl) ?_
    refine lv_iload_n hx hb dX4_number_133 rfl (lv_at hl 1 rfl) ?_
    obtain ⟨u14, h15, hf⟩ := g_bind hf
    refine g_vi (rest := []) X E hP hS (tcX4_faultIs l G _ _ h15) (g_cwV X gX4_number_X4_faultIs rfl hdX4_faultIs ⟨Nat.le_of_ble_eq_true rfl, Nat.le_of_ble_eq_true rfl⟩) (rcX_reader E hP) rfl hl.1 rfl (Nat.le_of_ble_eq_true rfl) dX4_number_134 ⟨Nat.le_refl _, Nat.le_refl _⟩ (fun H locs hP hS => ?_)
    refine lv_if_eq (tgt := 144) hx hb dX4_number_137 (by decide) (fun c16 => ?_) (fun c16 => ?_)
    · have hf := g_ift hf c16
      refine lv_iconst (v := 0) hx hb dX4_number_144 (by decide) ?_
      obtain rfl := g_some hf
      exact g_rz (v := (0 : Int32)) X E hP hS rfl dX4_number_145
    · have hf := g_iff hf c16
      refine lv_iconst (v := 1) hx hb dX4_number_140 (by decide) ?_
      refine lv_goto (tgt := 145) hx hb dX4_number_141 (by decide) ?_
      obtain rfl := g_some hf
      exact g_rz (v := (1 : Int32)) X E hP hS rfl dX4_number_145
def fX4_number_L98 (S : GS) (v1 : Int32) (v3 : Int32) (v4 : Int32) : Option (Int32 × GS) :=
  fX4_number_L127 S v3 (0 : Int32)
set_option maxHeartbeats 4000000 in
set_option maxRecDepth 100000 in
theorem bX4_number_L98 {p : Program} {l : Launch} {e : Env} {s : State} {m : MethodId} {args : Array Value} {below : List Frame} {meth : Method} {c : Code} {G : GP} (X : GX p s m meth c args cX4_number 6 (some .boolean) wsX4_number RX4) (E : gE WX G s) (S : GS) (v1 : Int32) (v3 : Int32) (v4 : Int32) (R : (Int32 × GS)) (H : Heap) (locs : List Loc) (ls : Array Slot) (hf : fX4_number_L98 S v1 v3 v4 = some R) (hP : va_P (gD G) vwCl (WX G S ++ gF G) H) (hS : va_S (gA G) s.heap H locs) (hl : lv_has ls 6 [(0, .ref (ga G 95)), (1, .int v1), (3, .int v3), (4, .int v4)]) : W p l e (gR 2 43) s m args below meth c H locs 0 0 (MQ below (gQi WX G R.1 R.2) args s 0 0 (gA G)) (F0 m 98 ls []) := by
  obtain ⟨hx, hb, -, -, hown, hts, -⟩ := id X
  rw [fX4_number_L98] at hf
  refine lv_iconst (v := 0) hx hb dX4_number_98 (by decide) ?_
  refine lv_istore (lv' := [(5, .int (0 : Int32)), (0, .ref (ga G 95)), (1, .int v1), (3, .int v3), (4, .int v4)]) hx hb dX4_number_99 hl (by decide) rfl (fun ls hl => ?_)
  refine lv_iload hx hb dX4_number_101 (lv_at hl 0 rfl) ?_
  refine lv_if_eq (tgt := 127) hx hb dX4_number_103 (by decide) (fun _ => ?_) (fun z => absurd z (by decide))
  exact bX4_number_L127 X E _ _ _ _ _ _ _ hf hP hS (lv_sub hl [1, 3, 0] rfl)
def fX4_number_L76 (S : GS) (v1 : Int32) (v2 : Int32) (v3 : Int32) (v4 : Int32) : Option (Int32 × GS) :=
  if (S.1 84) ≤ v3 then
    fX4_number_L98 S v1 v3 v4
  else
    (fX4_mayStand S v2 v4).bind fun u17 =>
    if u17 = 0 then
      fX4_number_L98 S v1 v3 v4
    else
      if v1 < 0 then
        fX4_number_L127 S v3 (1 : Int32)
      else
        if (6 : Int32) ≤ v1 then
          fX4_number_L127 S v3 (1 : Int32)
        else
          if v1 < 0 ∨ 6 ≤ (v1).toNatClampNeg then none else
          fX4_number_L127 (gU3 S 81 (v1).toNatClampNeg v4) v3 (1 : Int32)
set_option maxHeartbeats 4000000 in
set_option maxRecDepth 100000 in
theorem bX4_number_L76 {p : Program} {l : Launch} {e : Env} {s : State} {m : MethodId} {args : Array Value} {below : List Frame} {meth : Method} {c : Code} {G : GP} (X : GX p s m meth c args cX4_number 6 (some .boolean) wsX4_number RX4) (E : gE WX G s) (S : GS) (v1 : Int32) (v2 : Int32) (v3 : Int32) (v4 : Int32) (R : (Int32 × GS)) (H : Heap) (locs : List Loc) (ls : Array Slot) (hf : fX4_number_L76 S v1 v2 v3 v4 = some R) (hP : va_P (gD G) vwCl (WX G S ++ gF G) H) (hS : va_S (gA G) s.heap H locs) (hl : lv_has ls 6 [(0, .ref (ga G 95)), (1, .int v1), (2, .int v2), (3, .int v3), (4, .int v4)]) : W p l e (gR 2 43) s m args below meth c H locs 0 0 (MQ below (gQi WX G R.1 R.2) args s 0 0 (gA G)) (F0 m 76 ls []) := by
  obtain ⟨hx, hb, -, -, hown, hts, -⟩ := id X
  rw [fX4_number_L76] at hf
  refine lv_aload_n hx hb dX4_number_76 rfl (lv_at hl 0 rfl) ?_
  refine ggX_84 X E hP inX4_number_X4 lkX4_number_0 dX4_number_77 ?_
  refine lv_iload_n hx hb dX4_number_80 rfl (lv_at hl 3 rfl) ?_
  refine lv_icmp_le (tgt := 98) hx hb dX4_number_81 (by decide) (fun c12 => ?_) (fun c12 => ?_)
  · have hf := g_ift hf c12
    exact bX4_number_L98 X E _ _ _ _ _ _ _ _ hf hP hS (lv_sub hl [0, 1, 3, 4] rfl)
  · have hf := g_iff hf c12
    refine lv_aload_n hx hb dX4_number_84 rfl (lv_at hl 0 rfl) ?_
    refine lv_iload_n hx hb dX4_number_85 rfl (lv_at hl 2 rfl) ?_
    refine lv_iload hx hb dX4_number_86 (lv_at hl 4 rfl) ?_
    obtain ⟨u17, h18, hf⟩ := g_bind hf
    refine g_vi (rest := []) X E hP hS (tcX4_mayStand l G _ _ _ h18) (g_cwV X gX4_number_X4_mayStand rfl hdX4_mayStand ⟨Nat.le_of_ble_eq_true rfl, Nat.le_of_ble_eq_true rfl⟩) (rcX_reader E hP) rfl hl.1 rfl (Nat.le_of_ble_eq_true rfl) dX4_number_88 ⟨Nat.le_refl _, Nat.le_refl _⟩ (fun H locs hP hS => ?_)
    refine lv_if_eq (tgt := 98) hx hb dX4_number_91 (by decide) (fun c19 => ?_) (fun c19 => ?_)
    · have hf := g_ift hf c19
      exact bX4_number_L98 X E _ _ _ _ _ _ _ _ hf hP hS (lv_sub hl [0, 1, 3, 4] rfl)
    · have hf := g_iff hf c19
      refine lv_iconst (v := 1) hx hb dX4_number_94 (by decide) ?_
      refine lv_goto (tgt := 99) hx hb dX4_number_95 (by decide) ?_
      refine lv_istore (lv' := [(5, .int (1 : Int32)), (0, .ref (ga G 95)), (1, .int v1), (2, .int v2), (3, .int v3), (4, .int v4)]) hx hb dX4_number_99 hl (by decide) rfl (fun ls hl => ?_)
      refine lv_iload hx hb dX4_number_101 (lv_at hl 0 rfl) ?_
      refine lv_if_eq (tgt := 127) hx hb dX4_number_103 (by decide) (fun z => absurd z (by decide)) (fun _ => ?_)
      refine lv_iload_n hx hb dX4_number_106 rfl (lv_at hl 2 rfl) ?_
      refine lv_if_lt (tgt := 127) hx hb dX4_number_107 (by decide) (fun c20 => ?_) (fun c20 => ?_)
      · have hf := g_ift hf c20
        exact bX4_number_L127 X E _ _ _ _ _ _ _ hf hP hS (lv_sub hl [1, 4, 0] rfl)
      · have hf := g_iff hf c20
        refine lv_iload_n hx hb dX4_number_110 rfl (lv_at hl 2 rfl) ?_
        refine lv_aload_n hx hb dX4_number_111 rfl (lv_at hl 1 rfl) ?_
        refine ggX_81 X E hP inX4_number_X4 lkX4_number_1 dX4_number_112 ?_
        refine glX_81 X E hP dX4_number_115 ?_
        refine lv_icmp_ge (tgt := 127) hx hb dX4_number_116 (by decide) (fun c21 => ?_) (fun c21 => ?_)
        · have hf := g_ift hf c21
          exact bX4_number_L127 X E _ _ _ _ _ _ _ hf hP hS (lv_sub hl [1, 4, 0] rfl)
        · have hf := g_iff hf c21
          refine lv_aload_n hx hb dX4_number_119 rfl (lv_at hl 1 rfl) ?_
          refine ggX_81 X E hP inX4_number_X4 lkX4_number_1 dX4_number_120 ?_
          refine lv_iload_n hx hb dX4_number_123 rfl (lv_at hl 2 rfl) ?_
          refine lv_iload hx hb dX4_number_124 (lv_at hl 5 rfl) ?_
          obtain ⟨b22, hf⟩ := g_if hf
          refine gsX_81 X E hP hS b22 dX4_number_126 (fun H locs hP hS => ?_)
          exact bX4_number_L127 X E _ _ _ _ _ _ _ hf hP hS (lv_sub hl [1, 4, 0] rfl)
def fX4_number (S : GS) (a1 : Int32) (a2 : Int32) : Option (Int32 × GS) :=
  (fX4_number_8 gFuel S (S.1 84) (0 : Int32)).bind fun u10 =>
  fX4_number_L76 u10.2 a1 a2 (S.1 84) u10.1
set_option maxHeartbeats 4000000 in
set_option maxRecDepth 100000 in
theorem tcX4_number (l : Launch) (G : GP) (S : GS) (a1 : Int32) (a2 : Int32) {R : (Int32 × GS)} (hf : fX4_number S a1 a2 = some R) : CI l yX4_number wsX4_number 2 43 [.ref (ga G 95), .int a1, .int a2] WX G S R.1 R.2 := by
  refine g_met RX4 (cc := cX4_number) (nL := 6) (ret := (some .boolean)) (by decide) rfl rfl (Nat.le_of_ble_eq_true rfl) ?_
  intro p e s m below meth c ls X E hP hS hl
  have hl : lv_has ls 6 [(0, .ref (ga G 95)), (1, .int a1), (2, .int a2)] := hl
  obtain ⟨hx, hb, -, -, hown, hts, -⟩ := id X
  rw [fX4_number] at hf
  refine lv_aload_n hx hb dX4_number_0 rfl (lv_at hl 0 rfl) ?_
  refine ggX_84 X E hP inX4_number_X4 lkX4_number_0 dX4_number_1 ?_
  refine lv_istore_n (lv' := [(3, .int (S.1 84)), (0, .ref (ga G 95)), (1, .int a1), (2, .int a2)]) hx hb dX4_number_4 rfl hl (by decide) rfl (fun ls hl => ?_)
  refine lv_iconst (v := 0) hx hb dX4_number_5 (by decide) ?_
  refine lv_istore (lv' := [(4, .int (0 : Int32)), (3, .int (S.1 84)), (0, .ref (ga G 95)), (1, .int a1), (2, .int a2)]) hx hb dX4_number_6 hl (by decide) rfl (fun ls hl => ?_)
  obtain ⟨u10, h11, hf⟩ := g_bind hf
  refine bX4_number_8 X E gFuel _ _ _ u10 _ _ _ h11 hP hS (lv_sub hl [2, 3, 4, 1, 0] rfl) (fun H locs ls hP hS hl => ?_)
  have hl : lv_has ls 6 [(0, .ref (ga G 95)), (1, .int a1), (2, .int a2), (3, .int (S.1 84)), (4, .int u10.1)] := hl
  have hP : va_P (gD G) vwCl (WX G u10.2 ++ gF G) H := hP
  exact bX4_number_L76 X E _ _ _ _ _ _ _ _ _ hf hP hS (lv_sub hl [0, 1, 2, 3, 4] rfl)
theorem lkX4_readItem_0 : Cond.fieldLink RX4 47 RX4 "at" "I" ∈ wsX4_readItem := by decide +kernel
theorem lkX4_readItem_1 : Cond.fieldLink RX4 12 RX4 "told" "LBackToTheFirstStone$Loop;" ∈ wsX4_readItem := by decide +kernel
theorem inX4_readItem_X4 : ∀ w ∈ wsX40, w ∈ wsX4_readItem := by decide +kernel
def fX4_readItem_85 : Nat → GS → Int32 → Int32 → Int32 → Int32 → Option (Int32 × GS)
  | 0, _, _, _, _, _ => none
  | fu + 1, S, v1, v3, v4, v5 =>
    if v4 ≤ v5 then
      (fX4_tellItem S v1).bind fun u17 =>
      some ((1 : Int32), u17)
    else
      (fX4_sign S (32 : Int32)).bind fun u19 =>
      if u19.1 = 0 then
        some ((0 : Int32), u19.2)
      else
        (fX4_number u19.2 v5 (v3 + v5)).bind fun u22 =>
        if u22.1 = 0 then
          some ((0 : Int32), u22.2)
        else
          fX4_readItem_85 fu u22.2 v1 v3 v4 (v5 + 1)
set_option maxHeartbeats 4000000 in
set_option maxRecDepth 100000 in
theorem bX4_readItem_85 {p : Program} {l : Launch} {e : Env} {s : State} {m : MethodId} {args : Array Value} {below : List Frame} {meth : Method} {c : Code} {G : GP} (X : GX p s m meth c args cX4_readItem 6 (some .boolean) wsX4_readItem RX4) (E : gE WX G s)  : ∀ (fu : Nat) (S : GS) (v1 : Int32) (v3 : Int32) (v4 : Int32) (v5 : Int32) (R : (Int32 × GS)) (H : Heap) (locs : List Loc) (ls : Array Slot) (_ : fX4_readItem_85 fu S v1 v3 v4 v5 = some R) (_ : va_P (gD G) vwCl (WX G S ++ gF G) H) (_ : va_S (gA G) s.heap H locs) (_ : lv_has ls 6 [(0, .ref (ga G 95)), (1, .int v1), (3, .int v3), (4, .int v4), (5, .int v5)]), W p l e (gR 6 130) s m args below meth c H locs 0 0 (MQ below (gQi WX G R.1 R.2) args s 0 0 (gA G)) (F0 m 85 ls []) := by
  obtain ⟨hx, hb, -, -, hown, hts, -⟩ := id X
  intro fu
  induction fu with
  | zero =>
    intro S v1 v3 v4 v5 R H locs ls hf
    cases (show (none : Option (Int32 × GS)) = some R from hf)
  | succ fu ih =>
    intro S v1 v3 v4 v5 R H locs ls hf hP hS hl
    rw [fX4_readItem_85] at hf
    refine lv_iload hx hb dX4_readItem_85 (lv_at hl 4 rfl) ?_
    refine lv_iload hx hb dX4_readItem_87 (lv_at hl 3 rfl) ?_
    refine lv_icmp_ge (tgt := 122) hx hb dX4_readItem_89 (by decide) (fun c16 => ?_) (fun c16 => ?_)
    · have hf := g_ift hf c16
      refine lv_aload_n hx hb dX4_readItem_122 rfl (lv_at hl 0 rfl) ?_
      refine lv_iload_n hx hb dX4_readItem_123 rfl (lv_at hl 1 rfl) ?_
      obtain ⟨u17, h18, hf⟩ := g_bind hf
      refine g_vv (rest := []) X E hP hS (tcX4_tellItem l G _ _ h18) (g_cwV X gX4_readItem_X4_tellItem rfl hdX4_tellItem ⟨Nat.le_of_ble_eq_true rfl, Nat.le_of_ble_eq_true rfl⟩) (rcX_reader E hP) rfl hl.1 rfl (Nat.le_of_ble_eq_true rfl) dX4_readItem_124 ⟨Nat.le_refl _, Nat.le_refl _⟩ (fun H locs hP hS => ?_)
      refine lv_iconst (v := 1) hx hb dX4_readItem_127 (by decide) ?_
      obtain rfl := g_some hf
      exact g_rz (v := (1 : Int32)) X E hP hS rfl dX4_readItem_128
    · have hf := g_iff hf c16
      refine lv_aload_n hx hb dX4_readItem_92 rfl (lv_at hl 0 rfl) ?_
      refine lv_bipush (v := 32) hx hb dX4_readItem_93 (by decide) ?_
      obtain ⟨u19, h20, hf⟩ := g_bind hf
      refine g_vi (rest := []) X E hP hS (tcX4_sign l G _ _ h20) (g_cwV X gX4_readItem_X4_sign rfl hdX4_sign ⟨Nat.le_of_ble_eq_true rfl, Nat.le_of_ble_eq_true rfl⟩) (rcX_reader E hP) rfl hl.1 rfl (Nat.le_of_ble_eq_true rfl) dX4_readItem_95 ⟨Nat.le_refl _, Nat.le_refl _⟩ (fun H locs hP hS => ?_)
      refine lv_if_eq (tgt := 114) hx hb dX4_readItem_98 (by decide) (fun c21 => ?_) (fun c21 => ?_)
      · have hf := g_ift hf c21
        refine lv_iconst (v := 0) hx hb dX4_readItem_114 (by decide) ?_
        obtain rfl := g_some hf
        exact g_rz (v := (0 : Int32)) X E hP hS rfl dX4_readItem_115
      · have hf := g_iff hf c21
        refine lv_aload_n hx hb dX4_readItem_101 rfl (lv_at hl 0 rfl) ?_
        refine lv_iload hx hb dX4_readItem_102 (lv_at hl 4 rfl) ?_
        refine lv_iload_n hx hb dX4_readItem_104 rfl (lv_at hl 2 rfl) ?_
        refine lv_iload hx hb dX4_readItem_105 (lv_at hl 4 rfl) ?_
        refine lv_iadd hx hb dX4_readItem_107 ?_
        obtain ⟨u22, h23, hf⟩ := g_bind hf
        refine g_vi (rest := []) X E hP hS (tcX4_number l G _ _ _ h23) (g_cwV X gX4_readItem_X4_number rfl hdX4_number ⟨Nat.le_of_ble_eq_true rfl, Nat.le_of_ble_eq_true rfl⟩) (rcX_reader E hP) rfl hl.1 rfl (Nat.le_of_ble_eq_true rfl) dX4_readItem_108 ⟨Nat.le_refl _, Nat.le_refl _⟩ (fun H locs hP hS => ?_)
        refine lv_if_ne (tgt := 116) hx hb dX4_readItem_111 (by decide) (fun c24 => ?_) (fun c24 => ?_)
        · have hf := g_iff hf c24
          refine lv_iinc (v := (v5 + 1)) (lv' := [(5, .int (v5 + 1)), (0, .ref (ga G 95)), (1, .int v1), (3, .int v3), (4, .int v4)]) hx hb dX4_readItem_116 hl (k := 4) rfl rfl (by decide) rfl (fun ls hl => ?_)
          refine lv_goto (tgt := 85) hx hb dX4_readItem_119 (by decide) ?_
          exact ih _ _ _ _ _ _ _ _ _ hf hP hS (lv_sub hl [1, 2, 3, 4, 0] rfl)
        · have hf := g_ift hf c24
          refine lv_iconst (v := 0) hx hb dX4_readItem_114 (by decide) ?_
          obtain rfl := g_some hf
          exact g_rz (v := (0 : Int32)) X E hP hS rfl dX4_readItem_115
def fX4_readItem_L57 (S : GS) (v1 : Int32) (v2 : Int32) : Option (Int32 × GS) :=
  (fX4_numbersFrom (gU1 S 84 ((S.1 84) + v2)) v1).bind fun u12 =>
  (fX4_numbersFrom (gU1 S 84 ((S.1 84) + v2)) (v1 + (1 : Int32))).bind fun u14 =>
  fX4_readItem_85 gFuel (gU1 S 84 ((S.1 84) + v2)) v1 u12 (u14 - u12) (0 : Int32)
set_option maxHeartbeats 4000000 in
set_option maxRecDepth 100000 in
theorem bX4_readItem_L57 {p : Program} {l : Launch} {e : Env} {s : State} {m : MethodId} {args : Array Value} {below : List Frame} {meth : Method} {c : Code} {G : GP} (X : GX p s m meth c args cX4_readItem 6 (some .boolean) wsX4_readItem RX4) (E : gE WX G s) (S : GS) (v1 : Int32) (v2 : Int32) (R : (Int32 × GS)) (H : Heap) (locs : List Loc) (ls : Array Slot) (hf : fX4_readItem_L57 S v1 v2 = some R) (hP : va_P (gD G) vwCl (WX G S ++ gF G) H) (hS : va_S (gA G) s.heap H locs) (hl : lv_has ls 6 [(0, .ref (ga G 95)), (1, .int v1), (2, .int v2)]) : W p l e (gR 6 130) s m args below meth c H locs 0 0 (MQ below (gQi WX G R.1 R.2) args s 0 0 (gA G)) (F0 m 57 ls []) := by
  obtain ⟨hx, hb, -, -, hown, hts, -⟩ := id X
  rw [fX4_readItem_L57] at hf
  refine lv_aload_n hx hb dX4_readItem_57 rfl (lv_at hl 0 rfl) ?_
  refine lv_dup hx hb dX4_readItem_58 rfl ?_
  refine ggX_84 X E hP inX4_readItem_X4 lkX4_readItem_0 dX4_readItem_59 ?_
  refine lv_iload_n hx hb dX4_readItem_62 rfl (lv_at hl 2 rfl) ?_
  refine lv_iadd hx hb dX4_readItem_63 ?_
  refine gpX_84 X E hP hS inX4_readItem_X4 lkX4_readItem_0 dX4_readItem_64 (fun H locs hP hS => ?_)
  refine lv_iload_n hx hb dX4_readItem_67 rfl (lv_at hl 1 rfl) ?_
  obtain ⟨u12, h13, hf⟩ := g_bind hf
  refine g_si (rest := []) X E hP hS (tcX4_numbersFrom l G _ _ h13) (g_cwS X gX4_readItem_X4_numbersFrom rfl hdX4_numbersFrom ⟨Nat.le_of_ble_eq_true rfl, Nat.le_of_ble_eq_true rfl⟩) rfl hl.1 rfl (Nat.le_of_ble_eq_true rfl) dX4_readItem_68 ⟨Nat.le_refl _, Nat.le_refl _⟩ (fun H locs hP hS => ?_)
  refine lv_istore_n (lv' := [(3, .int u12), (0, .ref (ga G 95)), (1, .int v1), (2, .int v2)]) hx hb dX4_readItem_71 rfl hl (by decide) rfl (fun ls hl => ?_)
  refine lv_iload_n hx hb dX4_readItem_72 rfl (lv_at hl 2 rfl) ?_
  refine lv_iconst (v := 1) hx hb dX4_readItem_73 (by decide) ?_
  refine lv_iadd hx hb dX4_readItem_74 ?_
  obtain ⟨u14, h15, hf⟩ := g_bind hf
  refine g_si (rest := []) X E hP hS (tcX4_numbersFrom l G _ _ h15) (g_cwS X gX4_readItem_X4_numbersFrom rfl hdX4_numbersFrom ⟨Nat.le_of_ble_eq_true rfl, Nat.le_of_ble_eq_true rfl⟩) rfl hl.1 rfl (Nat.le_of_ble_eq_true rfl) dX4_readItem_75 ⟨Nat.le_refl _, Nat.le_refl _⟩ (fun H locs hP hS => ?_)
  refine lv_iload_n hx hb dX4_readItem_78 rfl (lv_at hl 0 rfl) ?_
  refine lv_isub hx hb dX4_readItem_79 ?_
  refine lv_istore (lv' := [(4, .int (u14 - u12)), (3, .int u12), (0, .ref (ga G 95)), (1, .int v1), (2, .int v2)]) hx hb dX4_readItem_80 hl (by decide) rfl (fun ls hl => ?_)
  refine lv_iconst (v := 0) hx hb dX4_readItem_82 (by decide) ?_
  refine lv_istore (lv' := [(5, .int (0 : Int32)), (4, .int (u14 - u12)), (3, .int u12), (0, .ref (ga G 95)), (1, .int v1), (2, .int v2)]) hx hb dX4_readItem_83 hl (by decide) rfl (fun ls hl => ?_)
  exact bX4_readItem_85 X E gFuel _ _ _ _ _ _ _ _ _ hf hP hS (lv_sub hl [3, 4, 2, 1, 0] rfl)
def fX4_readItem (S : GS)  : Option (Int32 × GS) :=
  (fX4_longestWordHere S).bind fun u1 =>
  (fX4_matchedOf S u1).bind fun u3 =>
  (fX4_wordOf S u1).bind fun u5 =>
  if 7 ≤ u5 then none else
  (fJ0_length_8abf5 S u5).bind fun u7 =>
  if u7 ≤ u3 then
    if u1 = 0 then
      (fX3_hasRoomFor_told S (1 : Int32)).bind fun u25 =>
      if u25 = 0 then
        (fX4_faultIs S (S.1 84)).bind fun u28 =>
        if ¬ (u28.1 = 0 ∨ u28.1 = 1) then none else
        some (u28.1, u28.2)
      else
        fX4_readItem_L57 S u1 u3
    else
      fX4_readItem_L57 S u1 u3
  else
    (fX4_faultIs S ((S.1 84) + u3)).bind fun u31 =>
    if ¬ (u31.1 = 0 ∨ u31.1 = 1) then none else
    some (u31.1, u31.2)
set_option maxHeartbeats 4000000 in
set_option maxRecDepth 100000 in
theorem tcX4_readItem (l : Launch) (G : GP) (S : GS)  {R : (Int32 × GS)} (hf : fX4_readItem S  = some R) : CI l yX4_readItem wsX4_readItem 6 130 [.ref (ga G 95)] WX G S R.1 R.2 := by
  refine g_met RX4 (cc := cX4_readItem) (nL := 6) (ret := (some .boolean)) (by decide) rfl rfl (Nat.le_of_ble_eq_true rfl) ?_
  intro p e s m below meth c ls X E hP hS hl
  have hl : lv_has ls 6 [(0, .ref (ga G 95))] := hl
  obtain ⟨hx, hb, -, -, hown, hts, -⟩ := id X
  rw [fX4_readItem] at hf
  refine lv_aload_n hx hb dX4_readItem_0 rfl (lv_at hl 0 rfl) ?_
  obtain ⟨u1, h2, hf⟩ := g_bind hf
  refine g_vi (rest := []) X E hP hS (tcX4_longestWordHere l G _  h2) (g_cwV X gX4_readItem_X4_longestWordHere rfl hdX4_longestWordHere ⟨Nat.le_of_ble_eq_true rfl, Nat.le_of_ble_eq_true rfl⟩) (rcX_reader E hP) rfl hl.1 rfl (Nat.le_of_ble_eq_true rfl) dX4_readItem_1 ⟨Nat.le_refl _, Nat.le_refl _⟩ (fun H locs hP hS => ?_)
  refine lv_istore_n (lv' := [(1, .int u1), (0, .ref (ga G 95))]) hx hb dX4_readItem_4 rfl hl (by decide) rfl (fun ls hl => ?_)
  refine lv_aload_n hx hb dX4_readItem_5 rfl (lv_at hl 1 rfl) ?_
  refine lv_iload_n hx hb dX4_readItem_6 rfl (lv_at hl 0 rfl) ?_
  obtain ⟨u3, h4, hf⟩ := g_bind hf
  refine g_vi (rest := []) X E hP hS (tcX4_matchedOf l G _ _ h4) (g_cwV X gX4_readItem_X4_matchedOf rfl hdX4_matchedOf ⟨Nat.le_of_ble_eq_true rfl, Nat.le_of_ble_eq_true rfl⟩) (rcX_reader E hP) rfl hl.1 rfl (Nat.le_of_ble_eq_true rfl) dX4_readItem_7 ⟨Nat.le_refl _, Nat.le_refl _⟩ (fun H locs hP hS => ?_)
  refine lv_istore_n (lv' := [(2, .int u3), (1, .int u1), (0, .ref (ga G 95))]) hx hb dX4_readItem_10 rfl hl (by decide) rfl (fun ls hl => ?_)
  refine lv_iload_n hx hb dX4_readItem_11 rfl (lv_at hl 0 rfl) ?_
  refine lv_iload_n hx hb dX4_readItem_12 rfl (lv_at hl 1 rfl) ?_
  obtain ⟨u5, h6, hf⟩ := g_bind hf
  refine g_ss (rest := [.int u3]) X E hP hS (tcX4_wordOf l G _ _ h6) (g_cwS X gX4_readItem_X4_wordOf rfl hdX4_wordOf ⟨Nat.le_of_ble_eq_true rfl, Nat.le_of_ble_eq_true rfl⟩) rfl hl.1 rfl (Nat.le_of_ble_eq_true rfl) dX4_readItem_13 ⟨Nat.le_refl _, Nat.le_refl _⟩ (fun H locs hP hS => ?_)
  obtain ⟨k9, hf⟩ := g_if hf
  obtain ⟨u7, h8, hf⟩ := g_bind hf
  refine g_vi (rest := [.int u3]) X E hP hS (tcJ0_length_8abf5 l G _ _ h8) (g_cwV X gX4_readItem_J0_length_8abf5 rfl hdJ0_length_8abf5 ⟨Nat.le_of_ble_eq_true rfl, Nat.le_of_ble_eq_true rfl⟩) (vk_recv E.2.2.2.2.2.1 (Nat.not_le.mp k9) hS) rfl hl.1 rfl (Nat.le_of_ble_eq_true rfl) dX4_readItem_16 ⟨Nat.le_refl _, Nat.le_refl _⟩ (fun H locs hP hS => ?_)
  refine lv_icmp_ge (tgt := 33) hx hb dX4_readItem_19 (by decide) (fun c10 => ?_) (fun c10 => ?_)
  · have hf := g_ift hf c10
    refine lv_iload_n hx hb dX4_readItem_33 rfl (lv_at hl 1 rfl) ?_
    refine lv_if_ne (tgt := 57) hx hb dX4_readItem_34 (by decide) (fun c11 => ?_) (fun c11 => ?_)
    · have hf := g_iff hf c11
      exact bX4_readItem_L57 X E _ _ _ _ _ _ _ hf hP hS (lv_sub hl [2, 1, 0] rfl)
    · have hf := g_ift hf c11
      refine lv_aload_n hx hb dX4_readItem_37 rfl (lv_at hl 2 rfl) ?_
      refine ggX_80 X E hP inX4_readItem_X4 lkX4_readItem_1 dX4_readItem_38 ?_
      refine lv_iconst (v := 1) hx hb dX4_readItem_41 (by decide) ?_
      obtain ⟨u25, h26, hf⟩ := g_bind hf
      refine g_vi (rest := []) X E hP hS (tcX3_hasRoomFor_told l G _ _ h26) (g_cwV X gX4_readItem_X3_hasRoomFor rfl hdX3_hasRoomFor ⟨Nat.le_of_ble_eq_true rfl, Nat.le_of_ble_eq_true rfl⟩) (rcX_told E hP) rfl hl.1 rfl (Nat.le_of_ble_eq_true rfl) dX4_readItem_42 ⟨Nat.le_refl _, Nat.le_refl _⟩ (fun H locs hP hS => ?_)
      refine lv_if_ne (tgt := 57) hx hb dX4_readItem_45 (by decide) (fun c27 => ?_) (fun c27 => ?_)
      · have hf := g_iff hf c27
        exact bX4_readItem_L57 X E _ _ _ _ _ _ _ hf hP hS (lv_sub hl [2, 1, 0] rfl)
      · have hf := g_ift hf c27
        refine lv_aload_n hx hb dX4_readItem_48 rfl (lv_at hl 2 rfl) ?_
        refine lv_aload_n hx hb dX4_readItem_49 rfl (lv_at hl 2 rfl) ?_
        refine ggX_84 X E hP inX4_readItem_X4 lkX4_readItem_0 dX4_readItem_50 ?_
        obtain ⟨u28, h29, hf⟩ := g_bind hf
        refine g_vi (rest := []) X E hP hS (tcX4_faultIs l G _ _ h29) (g_cwV X gX4_readItem_X4_faultIs rfl hdX4_faultIs ⟨Nat.le_of_ble_eq_true rfl, Nat.le_of_ble_eq_true rfl⟩) (rcX_reader E hP) rfl hl.1 rfl (Nat.le_of_ble_eq_true rfl) dX4_readItem_53 ⟨Nat.le_refl _, Nat.le_refl _⟩ (fun H locs hP hS => ?_)
        obtain ⟨z30, hf⟩ := g_if hf
        obtain rfl := g_some hf
        exact g_rz (v := u28.1) X E hP hS (g_bool z30) dX4_readItem_56
  · have hf := g_iff hf c10
    refine lv_aload_n hx hb dX4_readItem_22 rfl (lv_at hl 2 rfl) ?_
    refine lv_aload_n hx hb dX4_readItem_23 rfl (lv_at hl 2 rfl) ?_
    refine ggX_84 X E hP inX4_readItem_X4 lkX4_readItem_0 dX4_readItem_24 ?_
    refine lv_iload_n hx hb dX4_readItem_27 rfl (lv_at hl 0 rfl) ?_
    refine lv_iadd hx hb dX4_readItem_28 ?_
    obtain ⟨u31, h32, hf⟩ := g_bind hf
    refine g_vi (rest := []) X E hP hS (tcX4_faultIs l G _ _ h32) (g_cwV X gX4_readItem_X4_faultIs rfl hdX4_faultIs ⟨Nat.le_of_ble_eq_true rfl, Nat.le_of_ble_eq_true rfl⟩) (rcX_reader E hP) rfl hl.1 rfl (Nat.le_of_ble_eq_true rfl) dX4_readItem_29 ⟨Nat.le_refl _, Nat.le_refl _⟩ (fun H locs hP hS => ?_)
    obtain ⟨z33, hf⟩ := g_if hf
    obtain rfl := g_some hf
    exact g_rz (v := u31.1) X E hP hS (g_bool z33) dX4_readItem_32
def fX3_becomeLike_now_told (S : GS)  : Option GS :=
  if (0 : Int32) < 0 ∨ (0 : Int32) < 0 ∨ (128 : Int32) < 0 ∨ 128 < (0 : Int32).toNatClampNeg + (128 : Int32).toNatClampNeg ∨ 128 < (0 : Int32).toNatClampNeg + (128 : Int32).toNatClampNeg then none else
  gLet (gA3 S 0 (va_cpy (S.2.2.1 32) (S.2.2.1 0) (0 : Int32).toNatClampNeg (0 : Int32).toNatClampNeg (128 : Int32).toNatClampNeg)) fun T2 =>
  if (0 : Int32) < 0 ∨ (0 : Int32) < 0 ∨ (3 : Int32) < 0 ∨ 3 < (0 : Int32).toNatClampNeg + (3 : Int32).toNatClampNeg ∨ 3 < (0 : Int32).toNatClampNeg + (3 : Int32).toNatClampNeg then none else
  gLet (gA3 T2 1 (va_cpy (T2.2.2.1 33) (T2.2.2.1 1) (0 : Int32).toNatClampNeg (0 : Int32).toNatClampNeg (3 : Int32).toNatClampNeg)) fun T5 =>
  some (gU1 (gU1 T5 2 (T5.1 34)) 3 ((gU1 T5 2 (T5.1 34)).1 35))
set_option maxHeartbeats 4000000 in
set_option maxRecDepth 100000 in
theorem tcX3_becomeLike_now_told (l : Launch) (G : GP) (S : GS)  {R : GS} (hf : fX3_becomeLike_now_told S  = some R) : CV l yX3_becomeLike wsX3_becomeLike 1 64 [.ref (ga G 15), .ref (ga G 47)] WX G S R := by
  refine g_met RX3 (cc := cX3_becomeLike) (nL := 2) (ret := none) (by decide) rfl rfl (Nat.le_of_ble_eq_true rfl) ?_
  intro p e s m below meth c ls X E hP hS hl
  have hl : lv_has ls 2 [(0, .ref (ga G 15)), (1, .ref (ga G 47))] := hl
  obtain ⟨hx, hb, -, -, hown, hts, -⟩ := id X
  rw [fX3_becomeLike_now_told] at hf
  refine lv_aload_n hx hb dX3_becomeLike_0 rfl (lv_at hl 1 rfl) ?_
  refine ggX_32 X E hP inX3_becomeLike_X3 lkX3_becomeLike_0 dX3_becomeLike_1 ?_
  refine lv_iconst (v := 0) hx hb dX3_becomeLike_4 (by decide) ?_
  refine lv_aload_n hx hb dX3_becomeLike_5 rfl (lv_at hl 0 rfl) ?_
  refine ggX_0 X E hP inX3_becomeLike_X3 lkX3_becomeLike_0 dX3_becomeLike_6 ?_
  refine lv_iconst (v := 0) hx hb dX3_becomeLike_9 (by decide) ?_
  refine lv_aload_n hx hb dX3_becomeLike_10 rfl (lv_at hl 0 rfl) ?_
  refine ggX_0 X E hP inX3_becomeLike_X3 lkX3_becomeLike_0 dX3_becomeLike_11 ?_
  refine glX_0 X E hP dX3_becomeLike_14 ?_
  obtain ⟨b1, hf⟩ := g_if hf
  refine gcX_32_0 X E hP hS hl.1 lkX3_becomeLike_1 lkX3_becomeLike_2 lkX3_becomeLike_3 lkX3_becomeLike_4 b1 (Nat.le_of_ble_eq_true rfl) (by decide +kernel) dX3_becomeLike_15 (fun H locs hP hS => ?_)
  obtain ⟨T2, e3, hf⟩ := g_let hf
  rw [← e3] at hP
  refine lv_aload_n hx hb dX3_becomeLike_18 rfl (lv_at hl 1 rfl) ?_
  refine ggX_33 X E hP inX3_becomeLike_X3 lkX3_becomeLike_5 dX3_becomeLike_19 ?_
  refine lv_iconst (v := 0) hx hb dX3_becomeLike_22 (by decide) ?_
  refine lv_aload_n hx hb dX3_becomeLike_23 rfl (lv_at hl 0 rfl) ?_
  refine ggX_1 X E hP inX3_becomeLike_X3 lkX3_becomeLike_5 dX3_becomeLike_24 ?_
  refine lv_iconst (v := 0) hx hb dX3_becomeLike_27 (by decide) ?_
  refine lv_aload_n hx hb dX3_becomeLike_28 rfl (lv_at hl 0 rfl) ?_
  refine ggX_1 X E hP inX3_becomeLike_X3 lkX3_becomeLike_5 dX3_becomeLike_29 ?_
  refine glX_1 X E hP dX3_becomeLike_32 ?_
  obtain ⟨b4, hf⟩ := g_if hf
  refine gcX_33_1 X E hP hS hl.1 lkX3_becomeLike_1 lkX3_becomeLike_2 lkX3_becomeLike_3 lkX3_becomeLike_4 b4 (Nat.le_of_ble_eq_true rfl) (by decide +kernel) dX3_becomeLike_33 (fun H locs hP hS => ?_)
  obtain ⟨T5, e6, hf⟩ := g_let hf
  rw [← e6] at hP
  refine lv_aload_n hx hb dX3_becomeLike_36 rfl (lv_at hl 0 rfl) ?_
  refine lv_aload_n hx hb dX3_becomeLike_37 rfl (lv_at hl 1 rfl) ?_
  refine ggX_34 X E hP inX3_becomeLike_X3 lkX3_becomeLike_6 dX3_becomeLike_38 ?_
  refine gpX_2 X E hP hS inX3_becomeLike_X3 lkX3_becomeLike_6 dX3_becomeLike_41 (fun H locs hP hS => ?_)
  refine lv_aload_n hx hb dX3_becomeLike_44 rfl (lv_at hl 0 rfl) ?_
  refine lv_aload_n hx hb dX3_becomeLike_45 rfl (lv_at hl 1 rfl) ?_
  refine ggX_35 X E hP inX3_becomeLike_X3 lkX3_becomeLike_7 dX3_becomeLike_46 ?_
  refine gpX_3 X E hP hS inX3_becomeLike_X3 lkX3_becomeLike_7 dX3_becomeLike_49 (fun H locs hP hS => ?_)
  obtain rfl := g_some hf
  exact g_rv X E hP hS dX3_becomeLike_52
theorem lkX4_readOver_0 : Cond.fieldLink RX4 24 RX4 "letters" "[I" ∈ wsX4_readOver := by decide +kernel
theorem lkX4_readOver_1 : Cond.methodLink RX4 35 Lib.Math.min.name ∈ wsX4_readOver := by decide +kernel
theorem lkX4_readOver_2 : Cond.static Lib.Math.min.name ∈ wsX4_readOver := by decide +kernel
theorem lkX4_readOver_3 : Cond.initialized "java/lang/Math" ∈ wsX4_readOver := by decide +kernel
theorem lkX4_readOver_4 : Cond.code Lib.Math.min.name Lib.Math.min.code 2 (some .int) ∈ wsX4_readOver := by decide +kernel
theorem lkX4_readOver_5 : Cond.fieldLink RX4 41 RX4 "length" "I" ∈ wsX4_readOver := by decide +kernel
theorem lkX4_readOver_6 : Cond.fieldLink RX4 47 RX4 "at" "I" ∈ wsX4_readOver := by decide +kernel
theorem lkX4_readOver_7 : Cond.fieldLink RX4 27 RX4 "faultAt" "I" ∈ wsX4_readOver := by decide +kernel
theorem lkX4_readOver_8 : Cond.fieldLink RX4 12 RX4 "told" "LBackToTheFirstStone$Loop;" ∈ wsX4_readOver := by decide +kernel
theorem inX4_readOver_X4 : ∀ w ∈ wsX40, w ∈ wsX4_readOver := by decide +kernel
def fX4_readOver_now_shelves_20 : Nat → GS → Int32 → Int32 → Option GS
  | 0, _, _, _ => none
  | fu + 1, S, v3, v4 =>
    if (S.1 83) ≤ v4 then
      some S
    else
      (fX5_numberAt S v3 v4).bind fun u4 =>
      if v4 < 0 ∨ 160 ≤ (v4).toNatClampNeg then none else
      fX4_readOver_now_shelves_20 fu (gU3 S 82 (v4).toNatClampNeg u4) v3 (v4 + 1)
set_option maxHeartbeats 4000000 in
set_option maxRecDepth 100000 in
theorem bX4_readOver_now_shelves_20 {p : Program} {l : Launch} {e : Env} {s : State} {m : MethodId} {args : Array Value} {below : List Frame} {meth : Method} {c : Code} {Q : State → Prop} {G : GP} (X : GX p s m meth c args cX4_readOver 6 (some .int) wsX4_readOver RX4) (E : gE WX G s)  : ∀ (fu : Nat) (S : GS) (v3 : Int32) (v4 : Int32) (R : GS) (H : Heap) (locs : List Loc) (ls : Array Slot) (_ : fX4_readOver_now_shelves_20 fu S v3 v4 = some R) (_ : va_P (gD G) vwCl (WX G S ++ gF G) H) (_ : va_S (gA G) s.heap H locs) (_ : lv_has ls 6 [(0, .ref (ga G 95)), (1, .ref (ga G 15)), (2, .ref (ga G 79)), (3, .int v3), (4, .int v4)]) (_ : ∀ (H : Heap) (locs : List Loc) (ls : Array Slot), va_P (gD G) vwCl (WX G R ++ gF G) H → va_S (gA G) s.heap H locs → lv_has ls 6 [(0, .ref (ga G 95)), (1, .ref (ga G 15))] → W p l e (gR 7 155) s m args below meth c H locs 0 0 Q (F0 m 49 ls [])), W p l e (gR 7 155) s m args below meth c H locs 0 0 Q (F0 m 20 ls []) := by
  obtain ⟨hx, hb, -, -, hown, hts, -⟩ := id X
  intro fu
  induction fu with
  | zero =>
    intro S v3 v4 R H locs ls hf
    cases (show (none : Option GS) = some R from hf)
  | succ fu ih =>
    intro S v3 v4 R H locs ls hf hP hS hl kk
    rw [fX4_readOver_now_shelves_20] at hf
    refine lv_iload hx hb dX4_readOver_20 (lv_at hl 4 rfl) ?_
    refine lv_aload_n hx hb dX4_readOver_22 rfl (lv_at hl 0 rfl) ?_
    refine ggX_83 X E hP inX4_readOver_X4 lkX4_readOver_5 dX4_readOver_23 ?_
    refine lv_icmp_ge (tgt := 49) hx hb dX4_readOver_26 (by decide) (fun c3 => ?_) (fun c3 => ?_)
    · have hf := g_ift hf c3
      obtain rfl := g_some hf
      exact kk _ _ _ hP hS (lv_sub hl [0, 1] rfl)
    · have hf := g_iff hf c3
      refine lv_aload_n hx hb dX4_readOver_29 rfl (lv_at hl 0 rfl) ?_
      refine ggX_82 X E hP inX4_readOver_X4 lkX4_readOver_0 dX4_readOver_30 ?_
      refine lv_iload hx hb dX4_readOver_33 (lv_at hl 4 rfl) ?_
      refine lv_aload_n hx hb dX4_readOver_35 rfl (lv_at hl 2 rfl) ?_
      refine lv_iload_n hx hb dX4_readOver_36 rfl (lv_at hl 3 rfl) ?_
      refine lv_iload hx hb dX4_readOver_37 (lv_at hl 4 rfl) ?_
      obtain ⟨u4, h5, hf⟩ := g_bind hf
      refine g_vi (rest := [.int v4, .ref (ga G 82)]) X E hP hS (tcX5_numberAt l G _ _ _ h5) (g_cwV X gX4_readOver_X5_numberAt rfl hdX5_numberAt ⟨Nat.le_of_ble_eq_true rfl, Nat.le_of_ble_eq_true rfl⟩) (rcX_shelves E hP) rfl hl.1 rfl (Nat.le_of_ble_eq_true rfl) dX4_readOver_39 ⟨Nat.le_refl _, Nat.le_refl _⟩ (fun H locs hP hS => ?_)
      obtain ⟨b6, hf⟩ := g_if hf
      refine gsX_82 X E hP hS b6 dX4_readOver_42 (fun H locs hP hS => ?_)
      refine lv_iinc (v := (v4 + 1)) (lv' := [(4, .int (v4 + 1)), (0, .ref (ga G 95)), (1, .ref (ga G 15)), (2, .ref (ga G 79)), (3, .int v3)]) hx hb dX4_readOver_43 hl (k := 4) rfl rfl (by decide) rfl (fun ls hl => ?_)
      refine lv_goto (tgt := 20) hx hb dX4_readOver_46 (by decide) ?_
      exact ih _ _ _ _ _ _ _ hf hP hS (lv_sub hl [1, 2, 3, 4, 0] rfl) kk
def fX4_readOver_now_shelves_73 : Nat → GS → Int32 → Int32 → Option (Int32 × GS)
  | 0, _, _, _ => none
  | fu + 1, S, v4, v5 =>
    if v5 = 0 then
      some (v4, S)
    else
      if (S.1 83) < v4 then
        some (v4, S)
      else
        (fX4_readItem S).bind fun u13 =>
        if u13.1 = 0 then
          fX4_readOver_now_shelves_73 fu u13.2 (v4 + 1) (0 : Int32)
        else
          if (u13.2.1 83) ≤ (u13.2.1 84) then
            fX4_readOver_now_shelves_73 fu u13.2 (v4 + 1) (0 : Int32)
          else
            (fX4_sign u13.2 (59 : Int32)).bind fun u17 =>
            if u17.1 = 0 then
              fX4_readOver_now_shelves_73 fu u17.2 (v4 + 1) (0 : Int32)
            else
              fX4_readOver_now_shelves_73 fu u17.2 (v4 + 1) (1 : Int32)
set_option maxHeartbeats 4000000 in
set_option maxRecDepth 100000 in
theorem bX4_readOver_now_shelves_73 {p : Program} {l : Launch} {e : Env} {s : State} {m : MethodId} {args : Array Value} {below : List Frame} {meth : Method} {c : Code} {Q : State → Prop} {G : GP} (X : GX p s m meth c args cX4_readOver 6 (some .int) wsX4_readOver RX4) (E : gE WX G s)  : ∀ (fu : Nat) (S : GS) (v4 : Int32) (v5 : Int32) (R : (Int32 × GS)) (H : Heap) (locs : List Loc) (ls : Array Slot) (_ : fX4_readOver_now_shelves_73 fu S v4 v5 = some R) (_ : va_P (gD G) vwCl (WX G S ++ gF G) H) (_ : va_S (gA G) s.heap H locs) (_ : lv_has ls 6 [(0, .ref (ga G 95)), (1, .ref (ga G 15)), (4, .int v4), (5, .int v5)]) (_ : ∀ (H : Heap) (locs : List Loc) (ls : Array Slot), va_P (gD G) vwCl (WX G R.2 ++ gF G) H → va_S (gA G) s.heap H locs → lv_has ls 6 [(0, .ref (ga G 95)), (1, .ref (ga G 15)), (4, .int R.1)] → W p l e (gR 7 155) s m args below meth c H locs 0 0 Q (F0 m 127 ls [])), W p l e (gR 7 155) s m args below meth c H locs 0 0 Q (F0 m 73 ls []) := by
  obtain ⟨hx, hb, -, -, hown, hts, -⟩ := id X
  intro fu
  induction fu with
  | zero =>
    intro S v4 v5 R H locs ls hf
    cases (show (none : Option (Int32 × GS)) = some R from hf)
  | succ fu ih =>
    intro S v4 v5 R H locs ls hf hP hS hl kk
    rw [fX4_readOver_now_shelves_73] at hf
    refine lv_iload hx hb dX4_readOver_73 (lv_at hl 3 rfl) ?_
    refine lv_if_eq (tgt := 127) hx hb dX4_readOver_75 (by decide) (fun c11 => ?_) (fun c11 => ?_)
    · have hf := g_ift hf c11
      obtain rfl := g_some hf
      exact kk _ _ _ hP hS (lv_sub hl [0, 1, 2] rfl)
    · have hf := g_iff hf c11
      refine lv_iload hx hb dX4_readOver_78 (lv_at hl 2 rfl) ?_
      refine lv_aload_n hx hb dX4_readOver_80 rfl (lv_at hl 0 rfl) ?_
      refine ggX_83 X E hP inX4_readOver_X4 lkX4_readOver_5 dX4_readOver_81 ?_
      refine lv_icmp_gt (tgt := 127) hx hb dX4_readOver_84 (by decide) (fun c12 => ?_) (fun c12 => ?_)
      · have hf := g_ift hf c12
        obtain rfl := g_some hf
        exact kk _ _ _ hP hS (lv_sub hl [0, 1, 2] rfl)
      · have hf := g_iff hf c12
        refine lv_aload_n hx hb dX4_readOver_87 rfl (lv_at hl 0 rfl) ?_
        obtain ⟨u13, h14, hf⟩ := g_bind hf
        refine g_vi (rest := []) X E hP hS (tcX4_readItem l G _  h14) (g_cwV X gX4_readOver_X4_readItem rfl hdX4_readItem ⟨Nat.le_of_ble_eq_true rfl, Nat.le_of_ble_eq_true rfl⟩) (rcX_reader E hP) rfl hl.1 rfl (Nat.le_of_ble_eq_true rfl) dX4_readOver_88 ⟨Nat.le_refl _, Nat.le_refl _⟩ (fun H locs hP hS => ?_)
        refine lv_if_eq (tgt := 118) hx hb dX4_readOver_91 (by decide) (fun c15 => ?_) (fun c15 => ?_)
        · have hf := g_ift hf c15
          refine lv_iconst (v := 0) hx hb dX4_readOver_118 (by decide) ?_
          refine lv_istore (lv' := [(5, .int (0 : Int32)), (0, .ref (ga G 95)), (1, .ref (ga G 15)), (4, .int v4)]) hx hb dX4_readOver_119 hl (by decide) rfl (fun ls hl => ?_)
          refine lv_iinc (v := (v4 + 1)) (lv' := [(4, .int (v4 + 1)), (5, .int (0 : Int32)), (0, .ref (ga G 95)), (1, .ref (ga G 15))]) hx hb dX4_readOver_121 hl (k := 3) rfl rfl (by decide) rfl (fun ls hl => ?_)
          refine lv_goto (tgt := 73) hx hb dX4_readOver_124 (by decide) ?_
          exact ih _ _ _ _ _ _ _ hf hP hS (lv_sub hl [2, 3, 0, 1] rfl) kk
        · have hf := g_iff hf c15
          refine lv_aload_n hx hb dX4_readOver_94 rfl (lv_at hl 0 rfl) ?_
          refine ggX_84 X E hP inX4_readOver_X4 lkX4_readOver_6 dX4_readOver_95 ?_
          refine lv_aload_n hx hb dX4_readOver_98 rfl (lv_at hl 0 rfl) ?_
          refine ggX_83 X E hP inX4_readOver_X4 lkX4_readOver_5 dX4_readOver_99 ?_
          refine lv_icmp_ge (tgt := 118) hx hb dX4_readOver_102 (by decide) (fun c16 => ?_) (fun c16 => ?_)
          · have hf := g_ift hf c16
            refine lv_iconst (v := 0) hx hb dX4_readOver_118 (by decide) ?_
            refine lv_istore (lv' := [(5, .int (0 : Int32)), (0, .ref (ga G 95)), (1, .ref (ga G 15)), (4, .int v4)]) hx hb dX4_readOver_119 hl (by decide) rfl (fun ls hl => ?_)
            refine lv_iinc (v := (v4 + 1)) (lv' := [(4, .int (v4 + 1)), (5, .int (0 : Int32)), (0, .ref (ga G 95)), (1, .ref (ga G 15))]) hx hb dX4_readOver_121 hl (k := 3) rfl rfl (by decide) rfl (fun ls hl => ?_)
            refine lv_goto (tgt := 73) hx hb dX4_readOver_124 (by decide) ?_
            exact ih _ _ _ _ _ _ _ hf hP hS (lv_sub hl [2, 3, 0, 1] rfl) kk
          · have hf := g_iff hf c16
            refine lv_aload_n hx hb dX4_readOver_105 rfl (lv_at hl 0 rfl) ?_
            refine lv_bipush (v := 59) hx hb dX4_readOver_106 (by decide) ?_
            obtain ⟨u17, h18, hf⟩ := g_bind hf
            refine g_vi (rest := []) X E hP hS (tcX4_sign l G _ _ h18) (g_cwV X gX4_readOver_X4_sign rfl hdX4_sign ⟨Nat.le_of_ble_eq_true rfl, Nat.le_of_ble_eq_true rfl⟩) (rcX_reader E hP) rfl hl.1 rfl (Nat.le_of_ble_eq_true rfl) dX4_readOver_108 ⟨Nat.le_refl _, Nat.le_refl _⟩ (fun H locs hP hS => ?_)
            refine lv_if_eq (tgt := 118) hx hb dX4_readOver_111 (by decide) (fun c19 => ?_) (fun c19 => ?_)
            · have hf := g_ift hf c19
              refine lv_iconst (v := 0) hx hb dX4_readOver_118 (by decide) ?_
              refine lv_istore (lv' := [(5, .int (0 : Int32)), (0, .ref (ga G 95)), (1, .ref (ga G 15)), (4, .int v4)]) hx hb dX4_readOver_119 hl (by decide) rfl (fun ls hl => ?_)
              refine lv_iinc (v := (v4 + 1)) (lv' := [(4, .int (v4 + 1)), (5, .int (0 : Int32)), (0, .ref (ga G 95)), (1, .ref (ga G 15))]) hx hb dX4_readOver_121 hl (k := 3) rfl rfl (by decide) rfl (fun ls hl => ?_)
              refine lv_goto (tgt := 73) hx hb dX4_readOver_124 (by decide) ?_
              exact ih _ _ _ _ _ _ _ hf hP hS (lv_sub hl [2, 3, 0, 1] rfl) kk
            · have hf := g_iff hf c19
              refine lv_iconst (v := 1) hx hb dX4_readOver_114 (by decide) ?_
              refine lv_goto (tgt := 119) hx hb dX4_readOver_115 (by decide) ?_
              refine lv_istore (lv' := [(5, .int (1 : Int32)), (0, .ref (ga G 95)), (1, .ref (ga G 15)), (4, .int v4)]) hx hb dX4_readOver_119 hl (by decide) rfl (fun ls hl => ?_)
              refine lv_iinc (v := (v4 + 1)) (lv' := [(4, .int (v4 + 1)), (5, .int (1 : Int32)), (0, .ref (ga G 95)), (1, .ref (ga G 15))]) hx hb dX4_readOver_121 hl (k := 3) rfl rfl (by decide) rfl (fun ls hl => ?_)
              refine lv_goto (tgt := 73) hx hb dX4_readOver_124 (by decide) ?_
              exact ih _ _ _ _ _ _ _ hf hP hS (lv_sub hl [2, 3, 0, 1] rfl) kk
def fX4_readOver_now_shelves_L127 (S : GS) (v4 : Int32) : Option (Int32 × GS) :=
  if (S.1 85) = (-1 : Int32) then
    (fX3_becomeLike_now_told S).bind fun u23 =>
    some (v4, u23)
  else
    some (v4, S)
set_option maxHeartbeats 4000000 in
set_option maxRecDepth 100000 in
theorem bX4_readOver_now_shelves_L127 {p : Program} {l : Launch} {e : Env} {s : State} {m : MethodId} {args : Array Value} {below : List Frame} {meth : Method} {c : Code} {G : GP} (X : GX p s m meth c args cX4_readOver 6 (some .int) wsX4_readOver RX4) (E : gE WX G s) (S : GS) (v4 : Int32) (R : (Int32 × GS)) (H : Heap) (locs : List Loc) (ls : Array Slot) (hf : fX4_readOver_now_shelves_L127 S v4 = some R) (hP : va_P (gD G) vwCl (WX G S ++ gF G) H) (hS : va_S (gA G) s.heap H locs) (hl : lv_has ls 6 [(0, .ref (ga G 95)), (1, .ref (ga G 15)), (4, .int v4)]) : W p l e (gR 7 155) s m args below meth c H locs 0 0 (MQ below (gQi WX G R.1 R.2) args s 0 0 (gA G)) (F0 m 127 ls []) := by
  obtain ⟨hx, hb, -, -, hown, hts, -⟩ := id X
  rw [fX4_readOver_now_shelves_L127] at hf
  refine lv_aload_n hx hb dX4_readOver_127 rfl (lv_at hl 0 rfl) ?_
  refine ggX_85 X E hP inX4_readOver_X4 lkX4_readOver_7 dX4_readOver_128 ?_
  refine lv_iconst (v := -1) hx hb dX4_readOver_131 (by decide) ?_
  refine lv_icmp_ne (tgt := 143) hx hb dX4_readOver_132 (by decide) (fun c22 => ?_) (fun c22 => ?_)
  · have hf := g_iff hf c22
    refine lv_iload hx hb dX4_readOver_143 (lv_at hl 2 rfl) ?_
    obtain rfl := g_some hf
    exact g_ri X E hP hS dX4_readOver_145
  · have hf := g_ift hf c22
    refine lv_aload_n hx hb dX4_readOver_135 rfl (lv_at hl 1 rfl) ?_
    refine lv_aload_n hx hb dX4_readOver_136 rfl (lv_at hl 0 rfl) ?_
    refine ggX_80 X E hP inX4_readOver_X4 lkX4_readOver_8 dX4_readOver_137 ?_
    obtain ⟨u23, h24, hf⟩ := g_bind hf
    refine g_vv (rest := []) X E hP hS (tcX3_becomeLike_now_told l G _  h24) (g_cwV X gX4_readOver_X3_becomeLike rfl hdX3_becomeLike ⟨Nat.le_of_ble_eq_true rfl, Nat.le_of_ble_eq_true rfl⟩) (rcX_now E hP) rfl hl.1 rfl (Nat.le_of_ble_eq_true rfl) dX4_readOver_140 ⟨Nat.le_refl _, Nat.le_refl _⟩ (fun H locs hP hS => ?_)
    refine lv_iload hx hb dX4_readOver_143 (lv_at hl 2 rfl) ?_
    obtain rfl := g_some hf
    exact g_ri X E hP hS dX4_readOver_145
def fX4_readOver_now_shelves (S : GS) (a1 : Int32) : Option (Int32 × GS) :=
  (fX5_lengthOf S a1).bind fun u1 =>
  (fX4_readOver_now_shelves_20 gFuel (gU1 S 83 (if u1 < (160 : Int32) then u1 else (160 : Int32))) a1 (0 : Int32)).bind fun u7 =>
  (fX3_becomeLike_told_now (gU1 (gU1 u7 84 (0 : Int32)) 85 (-1 : Int32))).bind fun u9 =>
  (fX4_readOver_now_shelves_73 gFuel u9 (0 : Int32) (1 : Int32)).bind fun u20 =>
  fX4_readOver_now_shelves_L127 u20.2 u20.1
set_option maxHeartbeats 4000000 in
set_option maxRecDepth 100000 in
theorem tcX4_readOver_now_shelves (l : Launch) (G : GP) (S : GS) (a1 : Int32) {R : (Int32 × GS)} (hf : fX4_readOver_now_shelves S a1 = some R) : CI l yX4_readOver wsX4_readOver 7 155 [.ref (ga G 95), .ref (ga G 15), .ref (ga G 79), .int a1] WX G S R.1 R.2 := by
  refine g_met RX4 (cc := cX4_readOver) (nL := 6) (ret := (some .int)) (by decide) rfl rfl (Nat.le_of_ble_eq_true rfl) ?_
  intro p e s m below meth c ls X E hP hS hl
  have hl : lv_has ls 6 [(0, .ref (ga G 95)), (1, .ref (ga G 15)), (2, .ref (ga G 79)), (3, .int a1)] := hl
  obtain ⟨hx, hb, -, -, hown, hts, -⟩ := id X
  rw [fX4_readOver_now_shelves] at hf
  refine lv_aload_n hx hb dX4_readOver_0 rfl (lv_at hl 0 rfl) ?_
  refine lv_aload_n hx hb dX4_readOver_1 rfl (lv_at hl 0 rfl) ?_
  refine ggX_82 X E hP inX4_readOver_X4 lkX4_readOver_0 dX4_readOver_2 ?_
  refine glX_82 X E hP dX4_readOver_5 ?_
  refine lv_aload_n hx hb dX4_readOver_6 rfl (lv_at hl 2 rfl) ?_
  refine lv_iload_n hx hb dX4_readOver_7 rfl (lv_at hl 3 rfl) ?_
  obtain ⟨u1, h2, hf⟩ := g_bind hf
  refine g_vi (rest := [.int (160 : Int32), .ref (ga G 95)]) X E hP hS (tcX5_lengthOf l G _ _ h2) (g_cwV X gX4_readOver_X5_lengthOf rfl hdX5_lengthOf ⟨Nat.le_of_ble_eq_true rfl, Nat.le_of_ble_eq_true rfl⟩) (rcX_shelves E hP) rfl hl.1 rfl (Nat.le_of_ble_eq_true rfl) dX4_readOver_8 ⟨Nat.le_refl _, Nat.le_refl _⟩ (fun H locs hP hS => ?_)
  refine va_mmin hx hb (X.2.2.1.trans hl.1.symm) hown (hts _ lkX4_readOver_1) (hts _ lkX4_readOver_2) (hts _ lkX4_readOver_3) (hts _ lkX4_readOver_4) (Nat.le_of_ble_eq_true rfl) (Nat.le_of_ble_eq_true rfl) (Nat.le_refl _) (Nat.le_refl _) dX4_readOver_11 ?_
  refine gpX_83 X E hP hS inX4_readOver_X4 lkX4_readOver_5 dX4_readOver_14 (fun H locs hP hS => ?_)
  refine lv_iconst (v := 0) hx hb dX4_readOver_17 (by decide) ?_
  refine lv_istore (lv' := [(4, .int (0 : Int32)), (0, .ref (ga G 95)), (1, .ref (ga G 15)), (2, .ref (ga G 79)), (3, .int a1)]) hx hb dX4_readOver_18 hl (by decide) rfl (fun ls hl => ?_)
  obtain ⟨u7, h8, hf⟩ := g_bind hf
  refine bX4_readOver_now_shelves_20 X E gFuel _ _ _ u7 _ _ _ h8 hP hS (lv_sub hl [1, 2, 3, 4, 0] rfl) (fun H locs ls hP hS hl => ?_)
  have hl : lv_has ls 6 [(0, .ref (ga G 95)), (1, .ref (ga G 15))] := hl
  have hP : va_P (gD G) vwCl (WX G u7 ++ gF G) H := hP
  refine lv_aload_n hx hb dX4_readOver_49 rfl (lv_at hl 0 rfl) ?_
  refine lv_iconst (v := 0) hx hb dX4_readOver_50 (by decide) ?_
  refine gpX_84 X E hP hS inX4_readOver_X4 lkX4_readOver_6 dX4_readOver_51 (fun H locs hP hS => ?_)
  refine lv_aload_n hx hb dX4_readOver_54 rfl (lv_at hl 0 rfl) ?_
  refine lv_iconst (v := -1) hx hb dX4_readOver_55 (by decide) ?_
  refine gpX_85 X E hP hS inX4_readOver_X4 lkX4_readOver_7 dX4_readOver_56 (fun H locs hP hS => ?_)
  refine lv_aload_n hx hb dX4_readOver_59 rfl (lv_at hl 0 rfl) ?_
  refine ggX_80 X E hP inX4_readOver_X4 lkX4_readOver_8 dX4_readOver_60 ?_
  refine lv_aload_n hx hb dX4_readOver_63 rfl (lv_at hl 1 rfl) ?_
  obtain ⟨u9, h10, hf⟩ := g_bind hf
  refine g_vv (rest := []) X E hP hS (tcX3_becomeLike_told_now l G _  h10) (g_cwV X gX4_readOver_X3_becomeLike rfl hdX3_becomeLike ⟨Nat.le_of_ble_eq_true rfl, Nat.le_of_ble_eq_true rfl⟩) (rcX_told E hP) rfl hl.1 rfl (Nat.le_of_ble_eq_true rfl) dX4_readOver_64 ⟨Nat.le_refl _, Nat.le_refl _⟩ (fun H locs hP hS => ?_)
  refine lv_iconst (v := 0) hx hb dX4_readOver_67 (by decide) ?_
  refine lv_istore (lv' := [(4, .int (0 : Int32)), (0, .ref (ga G 95)), (1, .ref (ga G 15))]) hx hb dX4_readOver_68 hl (by decide) rfl (fun ls hl => ?_)
  refine lv_iconst (v := 1) hx hb dX4_readOver_70 (by decide) ?_
  refine lv_istore (lv' := [(5, .int (1 : Int32)), (4, .int (0 : Int32)), (0, .ref (ga G 95)), (1, .ref (ga G 15))]) hx hb dX4_readOver_71 hl (by decide) rfl (fun ls hl => ?_)
  obtain ⟨u20, h21, hf⟩ := g_bind hf
  refine bX4_readOver_now_shelves_73 X E gFuel _ _ _ u20 _ _ _ h21 hP hS (lv_sub hl [2, 3, 1, 0] rfl) (fun H locs ls hP hS hl => ?_)
  have hl : lv_has ls 6 [(0, .ref (ga G 95)), (1, .ref (ga G 15)), (4, .int u20.1)] := hl
  have hP : va_P (gD G) vwCl (WX G u20.2 ++ gF G) H := hP
  exact bX4_readOver_now_shelves_L127 X E _ _ _ _ _ _ hf hP hS (lv_sub hl [0, 1, 2] rfl)
theorem lkX4_faultPlace_0 : Cond.fieldLink RX4 27 RX4 "faultAt" "I" ∈ wsX4_faultPlace := by decide +kernel
theorem inX4_faultPlace_X4 : ∀ w ∈ wsX40, w ∈ wsX4_faultPlace := by decide +kernel
def fX4_faultPlace (S : GS)  : Option Int32 :=
  some (S.1 85)
set_option maxHeartbeats 4000000 in
set_option maxRecDepth 100000 in
theorem tcX4_faultPlace (l : Launch) (G : GP) (S : GS)  {R : Int32} (hf : fX4_faultPlace S  = some R) : CI l yX4_faultPlace wsX4_faultPlace 0 0 [.ref (ga G 95)] WX G S R S := by
  refine g_met RX4 (cc := cX4_faultPlace) (nL := 1) (ret := (some .int)) (by decide) rfl rfl (Nat.le_of_ble_eq_true rfl) ?_
  intro p e s m below meth c ls X E hP hS hl
  have hl : lv_has ls 1 [(0, .ref (ga G 95))] := hl
  obtain ⟨hx, hb, -, -, hown, hts, -⟩ := id X
  rw [fX4_faultPlace] at hf
  refine lv_aload_n hx hb dX4_faultPlace_0 rfl (lv_at hl 0 rfl) ?_
  refine ggX_85 X E hP inX4_faultPlace_X4 lkX4_faultPlace_0 dX4_faultPlace_1 ?_
  obtain rfl := g_some hf
  exact g_ri X E hP hS dX4_faultPlace_4
theorem lkX8_loop_0 : Cond.fieldLink RX8 29 RX8 "reader" "LBackToTheFirstStone$Reader;" ∈ wsX8_loop := by decide +kernel
theorem lkX8_loop_1 : Cond.fieldLink RX8 19 RX8 "now" "LBackToTheFirstStone$Loop;" ∈ wsX8_loop := by decide +kernel
theorem lkX8_loop_2 : Cond.fieldLink RX8 10 RX8 "shelves" "LBackToTheFirstStone$Shelves;" ∈ wsX8_loop := by decide +kernel
theorem lkX8_loop_3 : Cond.fieldLink RX8 69 RX8 "latestFault" "I" ∈ wsX8_loop := by decide +kernel
theorem inX8_loop_X8 : ∀ w ∈ wsX80, w ∈ wsX8_loop := by decide +kernel
def fX8_loop (S : GS) (a1 : Int32) : Option (Int32 × GS) :=
  (fX8_rowRefusal S a1).bind fun u1 =>
  if u1 = 0 then
    (fX4_readOver_now_shelves S a1).bind fun u4 =>
    (fX4_faultPlace u4.2).bind fun u6 =>
    if ((gU1 u4.2 58 u6).1 58) = (-1 : Int32) then
      some (u4.1, (gU1 u4.2 58 u6))
    else
      (fX8_refuse (gU1 u4.2 58 u6) (-6 : Int32)).bind fun u9 =>
      some (u9.1, u9.2)
  else
    (fX8_refuse S u1).bind fun u11 =>
    some (u11.1, u11.2)
set_option maxHeartbeats 4000000 in
set_option maxRecDepth 100000 in
theorem tcX8_loop (l : Launch) (G : GP) (S : GS) (a1 : Int32) {R : (Int32 × GS)} (hf : fX8_loop S a1 = some R) : CI l yX8_loop wsX8_loop 8 180 [.ref (ga G 63), .int a1] WX G S R.1 R.2 := by
  refine g_met RX8 (cc := cX8_loop) (nL := 4) (ret := (some .int)) (by decide) rfl rfl (Nat.le_of_ble_eq_true rfl) ?_
  intro p e s m below meth c ls X E hP hS hl
  have hl : lv_has ls 4 [(0, .ref (ga G 63)), (1, .int a1)] := hl
  obtain ⟨hx, hb, -, -, hown, hts, -⟩ := id X
  rw [fX8_loop] at hf
  refine lv_aload_n hx hb dX8_loop_0 rfl (lv_at hl 0 rfl) ?_
  refine lv_iload_n hx hb dX8_loop_1 rfl (lv_at hl 1 rfl) ?_
  obtain ⟨u1, h2, hf⟩ := g_bind hf
  refine g_vi (rest := []) X E hP hS (tcX8_rowRefusal l G _ _ h2) (g_cwV X gX8_loop_X8_rowRefusal rfl hdX8_rowRefusal ⟨Nat.le_of_ble_eq_true rfl, Nat.le_of_ble_eq_true rfl⟩) (rcX_main E hP) rfl hl.1 rfl (Nat.le_of_ble_eq_true rfl) dX8_loop_2 ⟨Nat.le_refl _, Nat.le_refl _⟩ (fun H locs hP hS => ?_)
  refine lv_istore_n (lv' := [(2, .int u1), (0, .ref (ga G 63)), (1, .int a1)]) hx hb dX8_loop_5 rfl hl (by decide) rfl (fun ls hl => ?_)
  refine lv_iload_n hx hb dX8_loop_6 rfl (lv_at hl 0 rfl) ?_
  refine lv_if_eq (tgt := 16) hx hb dX8_loop_7 (by decide) (fun c3 => ?_) (fun c3 => ?_)
  · have hf := g_ift hf c3
    refine lv_aload_n hx hb dX8_loop_16 rfl (lv_at hl 1 rfl) ?_
    refine ggX_51 X E hP inX8_loop_X8 lkX8_loop_0 dX8_loop_17 ?_
    refine lv_aload_n hx hb dX8_loop_20 rfl (lv_at hl 1 rfl) ?_
    refine ggX_49 X E hP inX8_loop_X8 lkX8_loop_1 dX8_loop_21 ?_
    refine lv_aload_n hx hb dX8_loop_24 rfl (lv_at hl 1 rfl) ?_
    refine ggX_48 X E hP inX8_loop_X8 lkX8_loop_2 dX8_loop_25 ?_
    refine lv_iload_n hx hb dX8_loop_28 rfl (lv_at hl 2 rfl) ?_
    obtain ⟨u4, h5, hf⟩ := g_bind hf
    refine g_vi (rest := []) X E hP hS (tcX4_readOver_now_shelves l G _ _ h5) (g_cwV X gX8_loop_X4_readOver rfl hdX4_readOver ⟨Nat.le_of_ble_eq_true rfl, Nat.le_of_ble_eq_true rfl⟩) (rcX_reader E hP) rfl hl.1 rfl (Nat.le_of_ble_eq_true rfl) dX8_loop_29 ⟨Nat.le_refl _, Nat.le_refl _⟩ (fun H locs hP hS => ?_)
    refine lv_istore_n (lv' := [(3, .int u4.1), (2, .int u1), (0, .ref (ga G 63)), (1, .int a1)]) hx hb dX8_loop_32 rfl hl (by decide) rfl (fun ls hl => ?_)
    refine lv_aload_n hx hb dX8_loop_33 rfl (lv_at hl 2 rfl) ?_
    refine lv_aload_n hx hb dX8_loop_34 rfl (lv_at hl 2 rfl) ?_
    refine ggX_51 X E hP inX8_loop_X8 lkX8_loop_0 dX8_loop_35 ?_
    obtain ⟨u6, h7, hf⟩ := g_bind hf
    refine g_vi (rest := [.ref (ga G 63)]) X E hP hS (tcX4_faultPlace l G _  h7) (g_cwV X gX8_loop_X4_faultPlace rfl hdX4_faultPlace ⟨Nat.le_of_ble_eq_true rfl, Nat.le_of_ble_eq_true rfl⟩) (rcX_reader E hP) rfl hl.1 rfl (Nat.le_of_ble_eq_true rfl) dX8_loop_38 ⟨Nat.le_refl _, Nat.le_refl _⟩ (fun H locs hP hS => ?_)
    refine gpX_58 X E hP hS inX8_loop_X8 lkX8_loop_3 dX8_loop_41 (fun H locs hP hS => ?_)
    refine lv_aload_n hx hb dX8_loop_44 rfl (lv_at hl 2 rfl) ?_
    refine ggX_58 X E hP inX8_loop_X8 lkX8_loop_3 dX8_loop_45 ?_
    refine lv_iconst (v := -1) hx hb dX8_loop_48 (by decide) ?_
    refine lv_icmp_ne (tgt := 56) hx hb dX8_loop_49 (by decide) (fun c8 => ?_) (fun c8 => ?_)
    · have hf := g_iff hf c8
      refine lv_aload_n hx hb dX8_loop_56 rfl (lv_at hl 2 rfl) ?_
      refine lv_bipush (v := -6) hx hb dX8_loop_57 (by decide) ?_
      obtain ⟨u9, h10, hf⟩ := g_bind hf
      refine g_vi (rest := []) X E hP hS (tcX8_refuse l G _ _ h10) (g_cwV X gX8_loop_X8_refuse rfl hdX8_refuse ⟨Nat.le_of_ble_eq_true rfl, Nat.le_of_ble_eq_true rfl⟩) (rcX_main E hP) rfl hl.1 rfl (Nat.le_of_ble_eq_true rfl) dX8_loop_59 ⟨Nat.le_refl _, Nat.le_refl _⟩ (fun H locs hP hS => ?_)
      obtain rfl := g_some hf
      exact g_ri X E hP hS dX8_loop_62
    · have hf := g_ift hf c8
      refine lv_iload_n hx hb dX8_loop_52 rfl (lv_at hl 0 rfl) ?_
      refine lv_goto (tgt := 62) hx hb dX8_loop_53 (by decide) ?_
      obtain rfl := g_some hf
      exact g_ri X E hP hS dX8_loop_62
  · have hf := g_iff hf c3
    refine lv_aload_n hx hb dX8_loop_10 rfl (lv_at hl 1 rfl) ?_
    refine lv_iload_n hx hb dX8_loop_11 rfl (lv_at hl 0 rfl) ?_
    obtain ⟨u11, h12, hf⟩ := g_bind hf
    refine g_vi (rest := []) X E hP hS (tcX8_refuse l G _ _ h12) (g_cwV X gX8_loop_X8_refuse rfl hdX8_refuse ⟨Nat.le_of_ble_eq_true rfl, Nat.le_of_ble_eq_true rfl⟩) (rcX_main E hP) rfl hl.1 rfl (Nat.le_of_ble_eq_true rfl) dX8_loop_12 ⟨Nat.le_refl _, Nat.le_refl _⟩ (fun H locs hP hS => ?_)
    obtain rfl := g_some hf
    exact g_ri X E hP hS dX8_loop_15
theorem lkX8_fault_0 : Cond.fieldLink RX8 69 RX8 "latestFault" "I" ∈ wsX8_fault := by decide +kernel
theorem inX8_fault_X8 : ∀ w ∈ wsX80, w ∈ wsX8_fault := by decide +kernel
def fX8_fault (S : GS)  : Option Int32 :=
  some (S.1 58)
set_option maxHeartbeats 4000000 in
set_option maxRecDepth 100000 in
theorem tcX8_fault (l : Launch) (G : GP) (S : GS)  {R : Int32} (hf : fX8_fault S  = some R) : CI l yX8_fault wsX8_fault 0 0 [.ref (ga G 63)] WX G S R S := by
  refine g_met RX8 (cc := cX8_fault) (nL := 1) (ret := (some .int)) (by decide) rfl rfl (Nat.le_of_ble_eq_true rfl) ?_
  intro p e s m below meth c ls X E hP hS hl
  have hl : lv_has ls 1 [(0, .ref (ga G 63))] := hl
  obtain ⟨hx, hb, -, -, hown, hts, -⟩ := id X
  rw [fX8_fault] at hf
  refine lv_aload_n hx hb dX8_fault_0 rfl (lv_at hl 0 rfl) ?_
  refine ggX_58 X E hP inX8_fault_X8 lkX8_fault_0 dX8_fault_1 ?_
  obtain rfl := g_some hf
  exact g_ri X E hP hS dX8_fault_4
theorem lkX3_risesAheadOf_0 : Cond.fieldLink RX3 16 RX3 "setUps" "I" ∈ wsX3_risesAheadOf := by decide +kernel
theorem inX3_risesAheadOf_X3 : ∀ w ∈ wsX30, w ∈ wsX3_risesAheadOf := by decide +kernel
def fX3_risesAheadOf_now_4 : Nat → GS → Int32 → Int32 → Int32 → Option Int32
  | 0, _, _, _, _ => none
  | fu + 1, S, v1, v2, v3 =>
    if v1 ≤ v3 then
      some v2
    else
      if (S.1 2) ≤ v3 then
        some v2
      else
        (fX3_riseOf_now S v3).bind fun u3 =>
        fX3_risesAheadOf_now_4 fu S v1 (v2 + u3) (v3 + 1)
set_option maxHeartbeats 4000000 in
set_option maxRecDepth 100000 in
theorem bX3_risesAheadOf_now_4 {p : Program} {l : Launch} {e : Env} {s : State} {m : MethodId} {args : Array Value} {below : List Frame} {meth : Method} {c : Code} {Q : State → Prop} {G : GP} (X : GX p s m meth c args cX3_risesAheadOf 4 (some .int) wsX3_risesAheadOf RX3) (E : gE WX G s)  : ∀ (fu : Nat) (S : GS) (v1 : Int32) (v2 : Int32) (v3 : Int32) (R : Int32) (H : Heap) (locs : List Loc) (ls : Array Slot) (_ : fX3_risesAheadOf_now_4 fu S v1 v2 v3 = some R) (_ : va_P (gD G) vwCl (WX G S ++ gF G) H) (_ : va_S (gA G) s.heap H locs) (_ : lv_has ls 4 [(0, .ref (ga G 15)), (1, .int v1), (2, .int v2), (3, .int v3)]) (_ : ∀ (H : Heap) (locs : List Loc) (ls : Array Slot), va_P (gD G) vwCl (WX G S ++ gF G) H → va_S (gA G) s.heap H locs → lv_has ls 4 [(2, .int R)] → W p l e (gR 4 88) s m args below meth c H locs 0 0 Q (F0 m 31 ls [])), W p l e (gR 4 88) s m args below meth c H locs 0 0 Q (F0 m 4 ls []) := by
  obtain ⟨hx, hb, -, -, hown, hts, -⟩ := id X
  intro fu
  induction fu with
  | zero =>
    intro S v1 v2 v3 R H locs ls hf
    cases (show (none : Option Int32) = some R from hf)
  | succ fu ih =>
    intro S v1 v2 v3 R H locs ls hf hP hS hl kk
    rw [fX3_risesAheadOf_now_4] at hf
    refine lv_iload_n hx hb dX3_risesAheadOf_4 rfl (lv_at hl 3 rfl) ?_
    refine lv_iload_n hx hb dX3_risesAheadOf_5 rfl (lv_at hl 1 rfl) ?_
    refine lv_icmp_ge (tgt := 31) hx hb dX3_risesAheadOf_6 (by decide) (fun c1 => ?_) (fun c1 => ?_)
    · have hf := g_ift hf c1
      obtain rfl := g_some hf
      exact kk _ _ _ hP hS (lv_sub hl [2] rfl)
    · have hf := g_iff hf c1
      refine lv_iload_n hx hb dX3_risesAheadOf_9 rfl (lv_at hl 3 rfl) ?_
      refine lv_aload_n hx hb dX3_risesAheadOf_10 rfl (lv_at hl 0 rfl) ?_
      refine ggX_2 X E hP inX3_risesAheadOf_X3 lkX3_risesAheadOf_0 dX3_risesAheadOf_11 ?_
      refine lv_icmp_ge (tgt := 31) hx hb dX3_risesAheadOf_14 (by decide) (fun c2 => ?_) (fun c2 => ?_)
      · have hf := g_ift hf c2
        obtain rfl := g_some hf
        exact kk _ _ _ hP hS (lv_sub hl [2] rfl)
      · have hf := g_iff hf c2
        refine lv_iload_n hx hb dX3_risesAheadOf_17 rfl (lv_at hl 2 rfl) ?_
        refine lv_aload_n hx hb dX3_risesAheadOf_18 rfl (lv_at hl 0 rfl) ?_
        refine lv_iload_n hx hb dX3_risesAheadOf_19 rfl (lv_at hl 3 rfl) ?_
        obtain ⟨u3, h4, hf⟩ := g_bind hf
        refine g_vi (rest := [.int v2]) X E hP hS (tcX3_riseOf_now l G _ _ h4) (g_cwV X gX3_risesAheadOf_X3_riseOf rfl hdX3_riseOf ⟨Nat.le_of_ble_eq_true rfl, Nat.le_of_ble_eq_true rfl⟩) (rcX_now E hP) rfl hl.1 rfl (Nat.le_of_ble_eq_true rfl) dX3_risesAheadOf_20 ⟨Nat.le_refl _, Nat.le_refl _⟩ (fun H locs hP hS => ?_)
        refine lv_iadd hx hb dX3_risesAheadOf_23 ?_
        refine lv_istore_n (lv' := [(2, .int (v2 + u3)), (0, .ref (ga G 15)), (1, .int v1), (3, .int v3)]) hx hb dX3_risesAheadOf_24 rfl hl (by decide) rfl (fun ls hl => ?_)
        refine lv_iinc (v := (v3 + 1)) (lv' := [(3, .int (v3 + 1)), (2, .int (v2 + u3)), (0, .ref (ga G 15)), (1, .int v1)]) hx hb dX3_risesAheadOf_25 hl (k := 3) rfl rfl (by decide) rfl (fun ls hl => ?_)
        refine lv_goto (tgt := 4) hx hb dX3_risesAheadOf_28 (by decide) ?_
        exact ih _ _ _ _ _ _ _ _ hf hP hS (lv_sub hl [2, 3, 1, 0] rfl) kk
def fX3_risesAheadOf_now (S : GS) (a1 : Int32) : Option Int32 :=
  (fX3_risesAheadOf_now_4 gFuel S a1 (0 : Int32) (0 : Int32)).bind fun u5 =>
  some u5
set_option maxHeartbeats 4000000 in
set_option maxRecDepth 100000 in
theorem tcX3_risesAheadOf_now (l : Launch) (G : GP) (S : GS) (a1 : Int32) {R : Int32} (hf : fX3_risesAheadOf_now S a1 = some R) : CI l yX3_risesAheadOf wsX3_risesAheadOf 4 88 [.ref (ga G 15), .int a1] WX G S R S := by
  refine g_met RX3 (cc := cX3_risesAheadOf) (nL := 4) (ret := (some .int)) (by decide) rfl rfl (Nat.le_of_ble_eq_true rfl) ?_
  intro p e s m below meth c ls X E hP hS hl
  have hl : lv_has ls 4 [(0, .ref (ga G 15)), (1, .int a1)] := hl
  obtain ⟨hx, hb, -, -, hown, hts, -⟩ := id X
  rw [fX3_risesAheadOf_now] at hf
  refine lv_iconst (v := 0) hx hb dX3_risesAheadOf_0 (by decide) ?_
  refine lv_istore_n (lv' := [(2, .int (0 : Int32)), (0, .ref (ga G 15)), (1, .int a1)]) hx hb dX3_risesAheadOf_1 rfl hl (by decide) rfl (fun ls hl => ?_)
  refine lv_iconst (v := 0) hx hb dX3_risesAheadOf_2 (by decide) ?_
  refine lv_istore_n (lv' := [(3, .int (0 : Int32)), (2, .int (0 : Int32)), (0, .ref (ga G 15)), (1, .int a1)]) hx hb dX3_risesAheadOf_3 rfl hl (by decide) rfl (fun ls hl => ?_)
  obtain ⟨u5, h6, hf⟩ := g_bind hf
  refine bX3_risesAheadOf_now_4 X E gFuel _ _ _ _ u5 _ _ _ h6 hP hS (lv_sub hl [2, 3, 1, 0] rfl) (fun H locs ls hP hS hl => ?_)
  have hl : lv_has ls 4 [(2, .int u5)] := hl
  refine lv_iload_n hx hb dX3_risesAheadOf_31 rfl (lv_at hl 0 rfl) ?_
  obtain rfl := g_some hf
  exact g_ri X E hP hS dX3_risesAheadOf_32
def fX3_heightAt_now (S : GS) (a1 : Int32) : Option Int32 :=
  (fX3_setting_now S (8 : Int32)).bind fun u1 =>
  (fX3_risesAheadOf_now S a1).bind fun u3 =>
  some (u1 + u3)
set_option maxHeartbeats 4000000 in
set_option maxRecDepth 100000 in
theorem tcX3_heightAt_now (l : Launch) (G : GP) (S : GS) (a1 : Int32) {R : Int32} (hf : fX3_heightAt_now S a1 = some R) : CI l yX3_heightAt wsX3_heightAt 5 111 [.ref (ga G 15), .int a1] WX G S R S := by
  refine g_met RX3 (cc := cX3_heightAt) (nL := 2) (ret := (some .int)) (by decide) rfl rfl (Nat.le_of_ble_eq_true rfl) ?_
  intro p e s m below meth c ls X E hP hS hl
  have hl : lv_has ls 2 [(0, .ref (ga G 15)), (1, .int a1)] := hl
  obtain ⟨hx, hb, -, -, hown, hts, -⟩ := id X
  rw [fX3_heightAt_now] at hf
  refine lv_aload_n hx hb dX3_heightAt_0 rfl (lv_at hl 0 rfl) ?_
  refine lv_bipush (v := 8) hx hb dX3_heightAt_1 (by decide) ?_
  obtain ⟨u1, h2, hf⟩ := g_bind hf
  refine g_vi (rest := []) X E hP hS (tcX3_setting_now l G _ _ h2) (g_cwV X gX3_heightAt_X3_setting rfl hdX3_setting ⟨Nat.le_of_ble_eq_true rfl, Nat.le_of_ble_eq_true rfl⟩) (rcX_now E hP) rfl hl.1 rfl (Nat.le_of_ble_eq_true rfl) dX3_heightAt_3 ⟨Nat.le_refl _, Nat.le_refl _⟩ (fun H locs hP hS => ?_)
  refine lv_aload_n hx hb dX3_heightAt_6 rfl (lv_at hl 0 rfl) ?_
  refine lv_iload_n hx hb dX3_heightAt_7 rfl (lv_at hl 1 rfl) ?_
  obtain ⟨u3, h4, hf⟩ := g_bind hf
  refine g_vi (rest := [.int u1]) X E hP hS (tcX3_risesAheadOf_now l G _ _ h4) (g_cwV X gX3_heightAt_X3_risesAheadOf rfl hdX3_risesAheadOf ⟨Nat.le_of_ble_eq_true rfl, Nat.le_of_ble_eq_true rfl⟩) (rcX_now E hP) rfl hl.1 rfl (Nat.le_of_ble_eq_true rfl) dX3_heightAt_8 ⟨Nat.le_refl _, Nat.le_refl _⟩ (fun H locs hP hS => ?_)
  refine lv_iadd hx hb dX3_heightAt_11 ?_
  obtain rfl := g_some hf
  exact g_ri X E hP hS dX3_heightAt_12
theorem lkX8_height_0 : Cond.constant RX8 125 (-1000000 : Int32) ∈ wsX8_height := by decide +kernel
theorem lkX8_height_1 : Cond.fieldLink RX8 19 RX8 "now" "LBackToTheFirstStone$Loop;" ∈ wsX8_height := by decide +kernel
theorem inX8_height_X8 : ∀ w ∈ wsX80, w ∈ wsX8_height := by decide +kernel
def fX8_height_L15 (S : GS)  : Option (Int32 × GS) :=
  (fX8_refuse S (-5 : Int32)).bind fun u2 =>
  some (((-1000000 : Int32) + u2.1), u2.2)
set_option maxHeartbeats 4000000 in
set_option maxRecDepth 100000 in
theorem bX8_height_L15 {p : Program} {l : Launch} {e : Env} {s : State} {m : MethodId} {args : Array Value} {below : List Frame} {meth : Method} {c : Code} {G : GP} (X : GX p s m meth c args cX8_height 2 (some .int) wsX8_height RX8) (E : gE WX G s) (S : GS)  (R : (Int32 × GS)) (H : Heap) (locs : List Loc) (ls : Array Slot) (hf : fX8_height_L15 S  = some R) (hP : va_P (gD G) vwCl (WX G S ++ gF G) H) (hS : va_S (gA G) s.heap H locs) (hl : lv_has ls 2 [(0, .ref (ga G 63))]) : W p l e (gR 6 132) s m args below meth c H locs 0 0 (MQ below (gQi WX G R.1 R.2) args s 0 0 (gA G)) (F0 m 15 ls []) := by
  obtain ⟨hx, hb, -, -, hown, hts, -⟩ := id X
  rw [fX8_height_L15] at hf
  refine lv_ldc hx hb hown (hts _ lkX8_height_0) dX8_height_15 ?_
  refine lv_aload_n hx hb dX8_height_17 rfl (lv_at hl 0 rfl) ?_
  refine lv_bipush (v := -5) hx hb dX8_height_18 (by decide) ?_
  obtain ⟨u2, h3, hf⟩ := g_bind hf
  refine g_vi (rest := [.int (-1000000 : Int32)]) X E hP hS (tcX8_refuse l G _ _ h3) (g_cwV X gX8_height_X8_refuse rfl hdX8_refuse ⟨Nat.le_of_ble_eq_true rfl, Nat.le_of_ble_eq_true rfl⟩) (rcX_main E hP) rfl hl.1 rfl (Nat.le_of_ble_eq_true rfl) dX8_height_20 ⟨Nat.le_refl _, Nat.le_refl _⟩ (fun H locs hP hS => ?_)
  refine lv_iadd hx hb dX8_height_23 ?_
  obtain rfl := g_some hf
  exact g_ri X E hP hS dX8_height_24
def fX8_height (S : GS) (a1 : Int32) : Option (Int32 × GS) :=
  if a1 < 0 then
    fX8_height_L15 S
  else
    (fX3_count_now S).bind fun u4 =>
    if a1 ≤ u4 then
      (fX3_heightAt_now S a1).bind fun u7 =>
      some (u7, S)
    else
      fX8_height_L15 S
set_option maxHeartbeats 4000000 in
set_option maxRecDepth 100000 in
theorem tcX8_height (l : Launch) (G : GP) (S : GS) (a1 : Int32) {R : (Int32 × GS)} (hf : fX8_height S a1 = some R) : CI l yX8_height wsX8_height 6 132 [.ref (ga G 63), .int a1] WX G S R.1 R.2 := by
  refine g_met RX8 (cc := cX8_height) (nL := 2) (ret := (some .int)) (by decide) rfl rfl (Nat.le_of_ble_eq_true rfl) ?_
  intro p e s m below meth c ls X E hP hS hl
  have hl : lv_has ls 2 [(0, .ref (ga G 63)), (1, .int a1)] := hl
  obtain ⟨hx, hb, -, -, hown, hts, -⟩ := id X
  rw [fX8_height] at hf
  refine lv_iload_n hx hb dX8_height_0 rfl (lv_at hl 1 rfl) ?_
  refine lv_if_lt (tgt := 15) hx hb dX8_height_1 (by decide) (fun c1 => ?_) (fun c1 => ?_)
  · have hf := g_ift hf c1
    exact bX8_height_L15 X E _ _ _ _ _ hf hP hS (lv_sub hl [0] rfl)
  · have hf := g_iff hf c1
    refine lv_iload_n hx hb dX8_height_4 rfl (lv_at hl 1 rfl) ?_
    refine lv_aload_n hx hb dX8_height_5 rfl (lv_at hl 0 rfl) ?_
    refine ggX_49 X E hP inX8_height_X8 lkX8_height_1 dX8_height_6 ?_
    obtain ⟨u4, h5, hf⟩ := g_bind hf
    refine g_vi (rest := [.int a1]) X E hP hS (tcX3_count_now l G _  h5) (g_cwV X gX8_height_X3_count rfl hdX3_count ⟨Nat.le_of_ble_eq_true rfl, Nat.le_of_ble_eq_true rfl⟩) (rcX_now E hP) rfl hl.1 rfl (Nat.le_of_ble_eq_true rfl) dX8_height_9 ⟨Nat.le_refl _, Nat.le_refl _⟩ (fun H locs hP hS => ?_)
    refine lv_icmp_le (tgt := 25) hx hb dX8_height_12 (by decide) (fun c6 => ?_) (fun c6 => ?_)
    · have hf := g_ift hf c6
      refine lv_aload_n hx hb dX8_height_25 rfl (lv_at hl 0 rfl) ?_
      refine ggX_49 X E hP inX8_height_X8 lkX8_height_1 dX8_height_26 ?_
      refine lv_iload_n hx hb dX8_height_29 rfl (lv_at hl 1 rfl) ?_
      obtain ⟨u7, h8, hf⟩ := g_bind hf
      refine g_vi (rest := []) X E hP hS (tcX3_heightAt_now l G _ _ h8) (g_cwV X gX8_height_X3_heightAt rfl hdX3_heightAt ⟨Nat.le_of_ble_eq_true rfl, Nat.le_of_ble_eq_true rfl⟩) (rcX_now E hP) rfl hl.1 rfl (Nat.le_of_ble_eq_true rfl) dX8_height_30 ⟨Nat.le_refl _, Nat.le_refl _⟩ (fun H locs hP hS => ?_)
      obtain rfl := g_some hf
      exact g_ri X E hP hS dX8_height_33
    · have hf := g_iff hf c6
      exact bX8_height_L15 X E _ _ _ _ _ hf hP hS (lv_sub hl [0] rfl)
theorem lkX3_rawInAll_0 : Cond.fieldLink RX3 16 RX3 "setUps" "I" ∈ wsX3_rawInAll := by decide +kernel
theorem inX3_rawInAll_X3 : ∀ w ∈ wsX30, w ∈ wsX3_rawInAll := by decide +kernel
def fX3_rawInAll_now_4 : Nat → GS → Int32 → Int32 → Option Int32
  | 0, _, _, _ => none
  | fu + 1, S, v1, v2 =>
    if (S.1 2) ≤ v2 then
      some v1
    else
      (fX3_bookedOf_now S v2).bind fun u2 =>
      fX3_rawInAll_now_4 fu S (v1 + u2) (v2 + 1)
set_option maxHeartbeats 4000000 in
set_option maxRecDepth 100000 in
theorem bX3_rawInAll_now_4 {p : Program} {l : Launch} {e : Env} {s : State} {m : MethodId} {args : Array Value} {below : List Frame} {meth : Method} {c : Code} {Q : State → Prop} {G : GP} (X : GX p s m meth c args cX3_rawInAll 3 (some .int) wsX3_rawInAll RX3) (E : gE WX G s)  : ∀ (fu : Nat) (S : GS) (v1 : Int32) (v2 : Int32) (R : Int32) (H : Heap) (locs : List Loc) (ls : Array Slot) (_ : fX3_rawInAll_now_4 fu S v1 v2 = some R) (_ : va_P (gD G) vwCl (WX G S ++ gF G) H) (_ : va_S (gA G) s.heap H locs) (_ : lv_has ls 3 [(0, .ref (ga G 15)), (1, .int v1), (2, .int v2)]) (_ : ∀ (H : Heap) (locs : List Loc) (ls : Array Slot), va_P (gD G) vwCl (WX G S ++ gF G) H → va_S (gA G) s.heap H locs → lv_has ls 3 [(1, .int R)] → W p l e (gR 2 44) s m args below meth c H locs 0 0 Q (F0 m 26 ls [])), W p l e (gR 2 44) s m args below meth c H locs 0 0 Q (F0 m 4 ls []) := by
  obtain ⟨hx, hb, -, -, hown, hts, -⟩ := id X
  intro fu
  induction fu with
  | zero =>
    intro S v1 v2 R H locs ls hf
    cases (show (none : Option Int32) = some R from hf)
  | succ fu ih =>
    intro S v1 v2 R H locs ls hf hP hS hl kk
    rw [fX3_rawInAll_now_4] at hf
    refine lv_iload_n hx hb dX3_rawInAll_4 rfl (lv_at hl 2 rfl) ?_
    refine lv_aload_n hx hb dX3_rawInAll_5 rfl (lv_at hl 0 rfl) ?_
    refine ggX_2 X E hP inX3_rawInAll_X3 lkX3_rawInAll_0 dX3_rawInAll_6 ?_
    refine lv_icmp_ge (tgt := 26) hx hb dX3_rawInAll_9 (by decide) (fun c1 => ?_) (fun c1 => ?_)
    · have hf := g_ift hf c1
      obtain rfl := g_some hf
      exact kk _ _ _ hP hS (lv_sub hl [1] rfl)
    · have hf := g_iff hf c1
      refine lv_iload_n hx hb dX3_rawInAll_12 rfl (lv_at hl 1 rfl) ?_
      refine lv_aload_n hx hb dX3_rawInAll_13 rfl (lv_at hl 0 rfl) ?_
      refine lv_iload_n hx hb dX3_rawInAll_14 rfl (lv_at hl 2 rfl) ?_
      obtain ⟨u2, h3, hf⟩ := g_bind hf
      refine g_vi (rest := [.int v1]) X E hP hS (tcX3_bookedOf_now l G _ _ h3) (g_cwV X gX3_rawInAll_X3_bookedOf rfl hdX3_bookedOf ⟨Nat.le_of_ble_eq_true rfl, Nat.le_of_ble_eq_true rfl⟩) (rcX_now E hP) rfl hl.1 rfl (Nat.le_of_ble_eq_true rfl) dX3_rawInAll_15 ⟨Nat.le_refl _, Nat.le_refl _⟩ (fun H locs hP hS => ?_)
      refine lv_iadd hx hb dX3_rawInAll_18 ?_
      refine lv_istore_n (lv' := [(1, .int (v1 + u2)), (0, .ref (ga G 15)), (2, .int v2)]) hx hb dX3_rawInAll_19 rfl hl (by decide) rfl (fun ls hl => ?_)
      refine lv_iinc (v := (v2 + 1)) (lv' := [(2, .int (v2 + 1)), (1, .int (v1 + u2)), (0, .ref (ga G 15))]) hx hb dX3_rawInAll_20 hl (k := 2) rfl rfl (by decide) rfl (fun ls hl => ?_)
      refine lv_goto (tgt := 4) hx hb dX3_rawInAll_23 (by decide) ?_
      exact ih _ _ _ _ _ _ _ hf hP hS (lv_sub hl [2, 1, 0] rfl) kk
def fX3_rawInAll_now (S : GS)  : Option Int32 :=
  (fX3_rawInAll_now_4 gFuel S (0 : Int32) (0 : Int32)).bind fun u4 =>
  some u4
set_option maxHeartbeats 4000000 in
set_option maxRecDepth 100000 in
theorem tcX3_rawInAll_now (l : Launch) (G : GP) (S : GS)  {R : Int32} (hf : fX3_rawInAll_now S  = some R) : CI l yX3_rawInAll wsX3_rawInAll 2 44 [.ref (ga G 15)] WX G S R S := by
  refine g_met RX3 (cc := cX3_rawInAll) (nL := 3) (ret := (some .int)) (by decide) rfl rfl (Nat.le_of_ble_eq_true rfl) ?_
  intro p e s m below meth c ls X E hP hS hl
  have hl : lv_has ls 3 [(0, .ref (ga G 15))] := hl
  obtain ⟨hx, hb, -, -, hown, hts, -⟩ := id X
  rw [fX3_rawInAll_now] at hf
  refine lv_iconst (v := 0) hx hb dX3_rawInAll_0 (by decide) ?_
  refine lv_istore_n (lv' := [(1, .int (0 : Int32)), (0, .ref (ga G 15))]) hx hb dX3_rawInAll_1 rfl hl (by decide) rfl (fun ls hl => ?_)
  refine lv_iconst (v := 0) hx hb dX3_rawInAll_2 (by decide) ?_
  refine lv_istore_n (lv' := [(2, .int (0 : Int32)), (1, .int (0 : Int32)), (0, .ref (ga G 15))]) hx hb dX3_rawInAll_3 rfl hl (by decide) rfl (fun ls hl => ?_)
  obtain ⟨u4, h5, hf⟩ := g_bind hf
  refine bX3_rawInAll_now_4 X E gFuel _ _ _ u4 _ _ _ h5 hP hS (lv_sub hl [2, 1, 0] rfl) (fun H locs ls hP hS hl => ?_)
  have hl : lv_has ls 3 [(1, .int u4)] := hl
  refine lv_iload_n hx hb dX3_rawInAll_26 rfl (lv_at hl 0 rfl) ?_
  obtain rfl := g_some hf
  exact g_ri X E hP hS dX3_rawInAll_27
theorem lkX3_mayBeOff_0 : Cond.fieldLink RX3 16 RX3 "setUps" "I" ∈ wsX3_mayBeOff := by decide +kernel
theorem inX3_mayBeOff_X3 : ∀ w ∈ wsX30, w ∈ wsX3_mayBeOff := by decide +kernel
def fX3_mayBeOff_now_2 : Nat → GS → Int32 → Option Int32
  | 0, _, _ => none
  | fu + 1, S, v1 =>
    if (S.1 2) ≤ v1 then
      some v1
    else
      if (S.1 2) < ((v1 + (1 : Int32)) * (v1 + (1 : Int32))) then
        some v1
      else
        fX3_mayBeOff_now_2 fu S (v1 + 1)
set_option maxHeartbeats 4000000 in
set_option maxRecDepth 100000 in
theorem bX3_mayBeOff_now_2 {p : Program} {l : Launch} {e : Env} {s : State} {m : MethodId} {args : Array Value} {below : List Frame} {meth : Method} {c : Code} {Q : State → Prop} {G : GP} (X : GX p s m meth c args cX3_mayBeOff 2 (some .int) wsX3_mayBeOff RX3) (E : gE WX G s)  : ∀ (fu : Nat) (S : GS) (v1 : Int32) (R : Int32) (H : Heap) (locs : List Loc) (ls : Array Slot) (_ : fX3_mayBeOff_now_2 fu S v1 = some R) (_ : va_P (gD G) vwCl (WX G S ++ gF G) H) (_ : va_S (gA G) s.heap H locs) (_ : lv_has ls 2 [(0, .ref (ga G 15)), (1, .int v1)]) (_ : ∀ (H : Heap) (locs : List Loc) (ls : Array Slot), va_P (gD G) vwCl (WX G S ++ gF G) H → va_S (gA G) s.heap H locs → lv_has ls 2 [(0, .ref (ga G 15)), (1, .int R)] → W p l e (gR 1 22) s m args below meth c H locs 0 0 Q (F0 m 30 ls [])), W p l e (gR 1 22) s m args below meth c H locs 0 0 Q (F0 m 2 ls []) := by
  obtain ⟨hx, hb, -, -, hown, hts, -⟩ := id X
  intro fu
  induction fu with
  | zero =>
    intro S v1 R H locs ls hf
    cases (show (none : Option Int32) = some R from hf)
  | succ fu ih =>
    intro S v1 R H locs ls hf hP hS hl kk
    rw [fX3_mayBeOff_now_2] at hf
    refine lv_iload_n hx hb dX3_mayBeOff_2 rfl (lv_at hl 1 rfl) ?_
    refine lv_aload_n hx hb dX3_mayBeOff_3 rfl (lv_at hl 0 rfl) ?_
    refine ggX_2 X E hP inX3_mayBeOff_X3 lkX3_mayBeOff_0 dX3_mayBeOff_4 ?_
    refine lv_icmp_ge (tgt := 30) hx hb dX3_mayBeOff_7 (by decide) (fun c1 => ?_) (fun c1 => ?_)
    · have hf := g_ift hf c1
      obtain rfl := g_some hf
      exact kk _ _ _ hP hS (lv_sub hl [0, 1] rfl)
    · have hf := g_iff hf c1
      refine lv_iload_n hx hb dX3_mayBeOff_10 rfl (lv_at hl 1 rfl) ?_
      refine lv_iconst (v := 1) hx hb dX3_mayBeOff_11 (by decide) ?_
      refine lv_iadd hx hb dX3_mayBeOff_12 ?_
      refine lv_iload_n hx hb dX3_mayBeOff_13 rfl (lv_at hl 1 rfl) ?_
      refine lv_iconst (v := 1) hx hb dX3_mayBeOff_14 (by decide) ?_
      refine lv_iadd hx hb dX3_mayBeOff_15 ?_
      refine lv_imul hx hb dX3_mayBeOff_16 ?_
      refine lv_aload_n hx hb dX3_mayBeOff_17 rfl (lv_at hl 0 rfl) ?_
      refine ggX_2 X E hP inX3_mayBeOff_X3 lkX3_mayBeOff_0 dX3_mayBeOff_18 ?_
      refine lv_icmp_gt (tgt := 30) hx hb dX3_mayBeOff_21 (by decide) (fun c2 => ?_) (fun c2 => ?_)
      · have hf := g_ift hf c2
        obtain rfl := g_some hf
        exact kk _ _ _ hP hS (lv_sub hl [0, 1] rfl)
      · have hf := g_iff hf c2
        refine lv_iinc (v := (v1 + 1)) (lv' := [(1, .int (v1 + 1)), (0, .ref (ga G 15))]) hx hb dX3_mayBeOff_24 hl (k := 1) rfl rfl (by decide) rfl (fun ls hl => ?_)
        refine lv_goto (tgt := 2) hx hb dX3_mayBeOff_27 (by decide) ?_
        exact ih _ _ _ _ _ _ hf hP hS (lv_sub hl [1, 0] rfl) kk
def fX3_mayBeOff_now_L30 (S : GS) (v1 : Int32) : Option Int32 :=
  (fX3_setting_now S (10 : Int32)).bind fun u5 =>
  some (u5 * v1)
set_option maxHeartbeats 4000000 in
set_option maxRecDepth 100000 in
theorem bX3_mayBeOff_now_L30 {p : Program} {l : Launch} {e : Env} {s : State} {m : MethodId} {args : Array Value} {below : List Frame} {meth : Method} {c : Code} {G : GP} (X : GX p s m meth c args cX3_mayBeOff 2 (some .int) wsX3_mayBeOff RX3) (E : gE WX G s) (S : GS) (v1 : Int32) (R : Int32) (H : Heap) (locs : List Loc) (ls : Array Slot) (hf : fX3_mayBeOff_now_L30 S v1 = some R) (hP : va_P (gD G) vwCl (WX G S ++ gF G) H) (hS : va_S (gA G) s.heap H locs) (hl : lv_has ls 2 [(0, .ref (ga G 15)), (1, .int v1)]) : W p l e (gR 1 22) s m args below meth c H locs 0 0 (MQ below (gQi WX G R S) args s 0 0 (gA G)) (F0 m 30 ls []) := by
  obtain ⟨hx, hb, -, -, hown, hts, -⟩ := id X
  rw [fX3_mayBeOff_now_L30] at hf
  refine lv_aload_n hx hb dX3_mayBeOff_30 rfl (lv_at hl 0 rfl) ?_
  refine lv_bipush (v := 10) hx hb dX3_mayBeOff_31 (by decide) ?_
  obtain ⟨u5, h6, hf⟩ := g_bind hf
  refine g_vi (rest := []) X E hP hS (tcX3_setting_now l G _ _ h6) (g_cwV X gX3_mayBeOff_X3_setting rfl hdX3_setting ⟨Nat.le_of_ble_eq_true rfl, Nat.le_of_ble_eq_true rfl⟩) (rcX_now E hP) rfl hl.1 rfl (Nat.le_of_ble_eq_true rfl) dX3_mayBeOff_33 ⟨Nat.le_refl _, Nat.le_refl _⟩ (fun H locs hP hS => ?_)
  refine lv_iload_n hx hb dX3_mayBeOff_36 rfl (lv_at hl 1 rfl) ?_
  refine lv_imul hx hb dX3_mayBeOff_37 ?_
  obtain rfl := g_some hf
  exact g_ri X E hP hS dX3_mayBeOff_38
def fX3_mayBeOff_now (S : GS)  : Option Int32 :=
  (fX3_mayBeOff_now_2 gFuel S (0 : Int32)).bind fun u3 =>
  fX3_mayBeOff_now_L30 S u3
set_option maxHeartbeats 4000000 in
set_option maxRecDepth 100000 in
theorem tcX3_mayBeOff_now (l : Launch) (G : GP) (S : GS)  {R : Int32} (hf : fX3_mayBeOff_now S  = some R) : CI l yX3_mayBeOff wsX3_mayBeOff 1 22 [.ref (ga G 15)] WX G S R S := by
  refine g_met RX3 (cc := cX3_mayBeOff) (nL := 2) (ret := (some .int)) (by decide) rfl rfl (Nat.le_of_ble_eq_true rfl) ?_
  intro p e s m below meth c ls X E hP hS hl
  have hl : lv_has ls 2 [(0, .ref (ga G 15))] := hl
  obtain ⟨hx, hb, -, -, hown, hts, -⟩ := id X
  rw [fX3_mayBeOff_now] at hf
  refine lv_iconst (v := 0) hx hb dX3_mayBeOff_0 (by decide) ?_
  refine lv_istore_n (lv' := [(1, .int (0 : Int32)), (0, .ref (ga G 15))]) hx hb dX3_mayBeOff_1 rfl hl (by decide) rfl (fun ls hl => ?_)
  obtain ⟨u3, h4, hf⟩ := g_bind hf
  refine bX3_mayBeOff_now_2 X E gFuel _ _ u3 _ _ _ h4 hP hS (lv_sub hl [1, 0] rfl) (fun H locs ls hP hS hl => ?_)
  have hl : lv_has ls 2 [(0, .ref (ga G 15)), (1, .int u3)] := hl
  exact bX3_mayBeOff_now_L30 X E _ _ _ _ _ _ hf hP hS (lv_sub hl [0, 1] rfl)
theorem lkX8_off_0 : Cond.fieldLink RX8 19 RX8 "now" "LBackToTheFirstStone$Loop;" ∈ wsX8_off := by decide +kernel
theorem lkX8_off_1 : Cond.methodLink RX8 188 Lib.Math.abs.name ∈ wsX8_off := by decide +kernel
theorem lkX8_off_2 : Cond.static Lib.Math.abs.name ∈ wsX8_off := by decide +kernel
theorem lkX8_off_3 : Cond.initialized "java/lang/Math" ∈ wsX8_off := by decide +kernel
theorem lkX8_off_4 : Cond.code Lib.Math.abs.name Lib.Math.abs.code 1 (some .int) ∈ wsX8_off := by decide +kernel
theorem lkX8_off_5 : Cond.constant RX8 125 (-1000000 : Int32) ∈ wsX8_off := by decide +kernel
theorem inX8_off_X8 : ∀ w ∈ wsX80, w ∈ wsX8_off := by decide +kernel
def fX8_off (S : GS) (a1 : Int32) : Option (Int32 × GS) :=
  if a1 = (0 : Int32) then
    (fX3_count_now S).bind fun u2 =>
    (fX3_risesAheadOf_now S u2).bind fun u4 =>
    some (u4, S)
  else if a1 = (1 : Int32) then
    (fX3_rawInAll_now S).bind fun u7 =>
    some (u7, S)
  else if a1 = (2 : Int32) then
    (fX3_mayBeOff_now S).bind fun u10 =>
    some (u10, S)
  else if a1 = (3 : Int32) then
    (fX3_count_now S).bind fun u13 =>
    (fX3_risesAheadOf_now S u13).bind fun u15 =>
    (fX3_mayBeOff_now S).bind fun u17 =>
    if (if 0 ≤ u15 then u15 else 0 - u15) ≤ u17 then
      some ((0 : Int32), S)
    else
      some ((1 : Int32), S)
  else (fX8_refuse S (-5 : Int32)).bind fun u20 =>
  some (((-1000000 : Int32) + u20.1), u20.2)
set_option maxHeartbeats 4000000 in
set_option maxRecDepth 100000 in
theorem tcX8_off (l : Launch) (G : GP) (S : GS) (a1 : Int32) {R : (Int32 × GS)} (hf : fX8_off S a1 = some R) : CI l yX8_off wsX8_off 5 111 [.ref (ga G 63), .int a1] WX G S R.1 R.2 := by
  refine g_met RX8 (cc := cX8_off) (nL := 2) (ret := (some .int)) (by decide) rfl rfl (Nat.le_of_ble_eq_true rfl) ?_
  intro p e s m below meth c ls X E hP hS hl
  have hl : lv_has ls 2 [(0, .ref (ga G 63)), (1, .int a1)] := hl
  obtain ⟨hx, hb, -, -, hown, hts, -⟩ := id X
  rw [fX8_off] at hf
  refine lv_iload_n hx hb dX8_off_0 rfl (lv_at hl 1 rfl) ?_
  by_cases c1 : a1 = (0 : Int32)
  · have hf := g_ift hf c1
    refine g_tin (k := (0 : Int32)) (off := 31) (tgt := 32) hx hb dX8_off_1 c1 (by decide) ?_
    refine lv_aload_n hx hb dX8_off_32 rfl (lv_at hl 0 rfl) ?_
    refine ggX_49 X E hP inX8_off_X8 lkX8_off_0 dX8_off_33 ?_
    refine lv_aload_n hx hb dX8_off_36 rfl (lv_at hl 0 rfl) ?_
    refine ggX_49 X E hP inX8_off_X8 lkX8_off_0 dX8_off_37 ?_
    obtain ⟨u2, h3, hf⟩ := g_bind hf
    refine g_vi (rest := [.ref (ga G 15)]) X E hP hS (tcX3_count_now l G _  h3) (g_cwV X gX8_off_X3_count rfl hdX3_count ⟨Nat.le_of_ble_eq_true rfl, Nat.le_of_ble_eq_true rfl⟩) (rcX_now E hP) rfl hl.1 rfl (Nat.le_of_ble_eq_true rfl) dX8_off_40 ⟨Nat.le_refl _, Nat.le_refl _⟩ (fun H locs hP hS => ?_)
    obtain ⟨u4, h5, hf⟩ := g_bind hf
    refine g_vi (rest := []) X E hP hS (tcX3_risesAheadOf_now l G _ _ h5) (g_cwV X gX8_off_X3_risesAheadOf rfl hdX3_risesAheadOf ⟨Nat.le_of_ble_eq_true rfl, Nat.le_of_ble_eq_true rfl⟩) (rcX_now E hP) rfl hl.1 rfl (Nat.le_of_ble_eq_true rfl) dX8_off_43 ⟨Nat.le_refl _, Nat.le_refl _⟩ (fun H locs hP hS => ?_)
    obtain rfl := g_some hf
    exact g_ri X E hP hS dX8_off_46
  have hf := g_iff hf c1
  by_cases c6 : a1 = (1 : Int32)
  · have hf := g_ift hf c6
    refine g_tin (k := (1 : Int32)) (off := 46) (tgt := 47) hx hb dX8_off_1 c6 (by decide) ?_
    refine lv_aload_n hx hb dX8_off_47 rfl (lv_at hl 0 rfl) ?_
    refine ggX_49 X E hP inX8_off_X8 lkX8_off_0 dX8_off_48 ?_
    obtain ⟨u7, h8, hf⟩ := g_bind hf
    refine g_vi (rest := []) X E hP hS (tcX3_rawInAll_now l G _  h8) (g_cwV X gX8_off_X3_rawInAll rfl hdX3_rawInAll ⟨Nat.le_of_ble_eq_true rfl, Nat.le_of_ble_eq_true rfl⟩) (rcX_now E hP) rfl hl.1 rfl (Nat.le_of_ble_eq_true rfl) dX8_off_51 ⟨Nat.le_refl _, Nat.le_refl _⟩ (fun H locs hP hS => ?_)
    obtain rfl := g_some hf
    exact g_ri X E hP hS dX8_off_54
  have hf := g_iff hf c6
  by_cases c9 : a1 = (2 : Int32)
  · have hf := g_ift hf c9
    refine g_tin (k := (2 : Int32)) (off := 54) (tgt := 55) hx hb dX8_off_1 c9 (by decide) ?_
    refine lv_aload_n hx hb dX8_off_55 rfl (lv_at hl 0 rfl) ?_
    refine ggX_49 X E hP inX8_off_X8 lkX8_off_0 dX8_off_56 ?_
    obtain ⟨u10, h11, hf⟩ := g_bind hf
    refine g_vi (rest := []) X E hP hS (tcX3_mayBeOff_now l G _  h11) (g_cwV X gX8_off_X3_mayBeOff rfl hdX3_mayBeOff ⟨Nat.le_of_ble_eq_true rfl, Nat.le_of_ble_eq_true rfl⟩) (rcX_now E hP) rfl hl.1 rfl (Nat.le_of_ble_eq_true rfl) dX8_off_59 ⟨Nat.le_refl _, Nat.le_refl _⟩ (fun H locs hP hS => ?_)
    obtain rfl := g_some hf
    exact g_ri X E hP hS dX8_off_62
  have hf := g_iff hf c9
  by_cases c12 : a1 = (3 : Int32)
  · have hf := g_ift hf c12
    refine g_tin (k := (3 : Int32)) (off := 62) (tgt := 63) hx hb dX8_off_1 c12 (by decide) ?_
    refine lv_aload_n hx hb dX8_off_63 rfl (lv_at hl 0 rfl) ?_
    refine ggX_49 X E hP inX8_off_X8 lkX8_off_0 dX8_off_64 ?_
    refine lv_aload_n hx hb dX8_off_67 rfl (lv_at hl 0 rfl) ?_
    refine ggX_49 X E hP inX8_off_X8 lkX8_off_0 dX8_off_68 ?_
    obtain ⟨u13, h14, hf⟩ := g_bind hf
    refine g_vi (rest := [.ref (ga G 15)]) X E hP hS (tcX3_count_now l G _  h14) (g_cwV X gX8_off_X3_count rfl hdX3_count ⟨Nat.le_of_ble_eq_true rfl, Nat.le_of_ble_eq_true rfl⟩) (rcX_now E hP) rfl hl.1 rfl (Nat.le_of_ble_eq_true rfl) dX8_off_71 ⟨Nat.le_refl _, Nat.le_refl _⟩ (fun H locs hP hS => ?_)
    obtain ⟨u15, h16, hf⟩ := g_bind hf
    refine g_vi (rest := []) X E hP hS (tcX3_risesAheadOf_now l G _ _ h16) (g_cwV X gX8_off_X3_risesAheadOf rfl hdX3_risesAheadOf ⟨Nat.le_of_ble_eq_true rfl, Nat.le_of_ble_eq_true rfl⟩) (rcX_now E hP) rfl hl.1 rfl (Nat.le_of_ble_eq_true rfl) dX8_off_74 ⟨Nat.le_refl _, Nat.le_refl _⟩ (fun H locs hP hS => ?_)
    refine va_mabs hx hb (X.2.2.1.trans hl.1.symm) hown (hts _ lkX8_off_1) (hts _ lkX8_off_2) (hts _ lkX8_off_3) (hts _ lkX8_off_4) (Nat.le_of_ble_eq_true rfl) (Nat.le_of_ble_eq_true rfl) (Nat.le_refl _) (Nat.le_refl _) dX8_off_77 ?_
    refine lv_aload_n hx hb dX8_off_80 rfl (lv_at hl 0 rfl) ?_
    refine ggX_49 X E hP inX8_off_X8 lkX8_off_0 dX8_off_81 ?_
    obtain ⟨u17, h18, hf⟩ := g_bind hf
    refine g_vi (rest := [.int (if 0 ≤ u15 then u15 else 0 - u15)]) X E hP hS (tcX3_mayBeOff_now l G _  h18) (g_cwV X gX8_off_X3_mayBeOff rfl hdX3_mayBeOff ⟨Nat.le_of_ble_eq_true rfl, Nat.le_of_ble_eq_true rfl⟩) (rcX_now E hP) rfl hl.1 rfl (Nat.le_of_ble_eq_true rfl) dX8_off_84 ⟨Nat.le_refl _, Nat.le_refl _⟩ (fun H locs hP hS => ?_)
    refine lv_icmp_le (tgt := 94) hx hb dX8_off_87 (by decide) (fun c19 => ?_) (fun c19 => ?_)
    · have hf := g_ift hf c19
      refine lv_iconst (v := 0) hx hb dX8_off_94 (by decide) ?_
      obtain rfl := g_some hf
      exact g_ri X E hP hS dX8_off_95
    · have hf := g_iff hf c19
      refine lv_iconst (v := 1) hx hb dX8_off_90 (by decide) ?_
      refine lv_goto (tgt := 95) hx hb dX8_off_91 (by decide) ?_
      obtain rfl := g_some hf
      exact g_ri X E hP hS dX8_off_95
  have hf := g_iff hf c12
  refine lv_tableOut (tgt := 96) hx hb dX8_off_1 (by have e0 := lv_neT (a := 0) c1 (by decide); have e1 := lv_neT (a := 1) c6 (by decide); have e2 := lv_neT (a := 2) c9 (by decide); have e3 := lv_neT (a := 3) c12 (by decide); omega) (by decide) ?_
  refine lv_ldc hx hb hown (hts _ lkX8_off_5) dX8_off_96 ?_
  refine lv_aload_n hx hb dX8_off_98 rfl (lv_at hl 0 rfl) ?_
  refine lv_bipush (v := -5) hx hb dX8_off_99 (by decide) ?_
  obtain ⟨u20, h21, hf⟩ := g_bind hf
  refine g_vi (rest := [.int (-1000000 : Int32)]) X E hP hS (tcX8_refuse l G _ _ h21) (g_cwV X gX8_off_X8_refuse rfl hdX8_refuse ⟨Nat.le_of_ble_eq_true rfl, Nat.le_of_ble_eq_true rfl⟩) (rcX_main E hP) rfl hl.1 rfl (Nat.le_of_ble_eq_true rfl) dX8_off_101 ⟨Nat.le_refl _, Nat.le_refl _⟩ (fun H locs hP hS => ?_)
  refine lv_iadd hx hb dX8_off_104 ?_
  obtain rfl := g_some hf
  exact g_ri X E hP hS dX8_off_105
theorem lkX3_weightAheadOf_0 : Cond.fieldLink RX3 16 RX3 "setUps" "I" ∈ wsX3_weightAheadOf := by decide +kernel
theorem inX3_weightAheadOf_X3 : ∀ w ∈ wsX30, w ∈ wsX3_weightAheadOf := by decide +kernel
def fX3_weightAheadOf_now_5 : Nat → GS → Int32 → Int32 → Int64 → Int32 → Option Int64
  | 0, _, _, _, _, _ => none
  | fu + 1, S, v1, v2, v3, v5 =>
    if v1 ≤ v5 then
      some v3
    else
      if (S.1 2) ≤ v5 then
        some v3
      else
        (fX3_yardsOf_now S v5).bind fun u3 =>
        if v2 = 0 then
          fX3_weightAheadOf_now_5 fu S v1 v2 (v3 + (1 : Int64)) (v5 + 1)
        else
          if v2 = (1 : Int32) then
            fX3_weightAheadOf_now_5 fu S v1 v2 (v3 + (u3).toInt64) (v5 + 1)
          else
            fX3_weightAheadOf_now_5 fu S v1 v2 (v3 + ((u3).toInt64 * (u3).toInt64)) (v5 + 1)
set_option maxHeartbeats 4000000 in
set_option maxRecDepth 100000 in
theorem bX3_weightAheadOf_now_5 {p : Program} {l : Launch} {e : Env} {s : State} {m : MethodId} {args : Array Value} {below : List Frame} {meth : Method} {c : Code} {Q : State → Prop} {G : GP} (X : GX p s m meth c args cX3_weightAheadOf 8 (some .long) wsX3_weightAheadOf RX3) (E : gE WX G s)  : ∀ (fu : Nat) (S : GS) (v1 : Int32) (v2 : Int32) (v3 : Int64) (v5 : Int32) (R : Int64) (H : Heap) (locs : List Loc) (ls : Array Slot) (_ : fX3_weightAheadOf_now_5 fu S v1 v2 v3 v5 = some R) (_ : va_P (gD G) vwCl (WX G S ++ gF G) H) (_ : va_S (gA G) s.heap H locs) (_ : lv_has ls 8 [(0, .ref (ga G 15)), (1, .int v1), (2, .int v2), (3, .long v3), (5, .int v5)]) (_ : ∀ (H : Heap) (locs : List Loc) (ls : Array Slot), va_P (gD G) vwCl (WX G S ++ gF G) H → va_S (gA G) s.heap H locs → lv_has ls 8 [(3, .long R)] → W p l e (gR 2 44) s m args below meth c H locs 0 0 Q (F0 m 61 ls [])), W p l e (gR 2 44) s m args below meth c H locs 0 0 Q (F0 m 5 ls []) := by
  obtain ⟨hx, hb, -, -, hown, hts, -⟩ := id X
  intro fu
  induction fu with
  | zero =>
    intro S v1 v2 v3 v5 R H locs ls hf
    cases (show (none : Option Int64) = some R from hf)
  | succ fu ih =>
    intro S v1 v2 v3 v5 R H locs ls hf hP hS hl kk
    rw [fX3_weightAheadOf_now_5] at hf
    refine lv_iload hx hb dX3_weightAheadOf_5 (lv_at hl 4 rfl) ?_
    refine lv_iload_n hx hb dX3_weightAheadOf_7 rfl (lv_at hl 1 rfl) ?_
    refine lv_icmp_ge (tgt := 61) hx hb dX3_weightAheadOf_8 (by decide) (fun c1 => ?_) (fun c1 => ?_)
    · have hf := g_ift hf c1
      obtain rfl := g_some hf
      exact kk _ _ _ hP hS (lv_sub hl [3] rfl)
    · have hf := g_iff hf c1
      refine lv_iload hx hb dX3_weightAheadOf_11 (lv_at hl 4 rfl) ?_
      refine lv_aload_n hx hb dX3_weightAheadOf_13 rfl (lv_at hl 0 rfl) ?_
      refine ggX_2 X E hP inX3_weightAheadOf_X3 lkX3_weightAheadOf_0 dX3_weightAheadOf_14 ?_
      refine lv_icmp_ge (tgt := 61) hx hb dX3_weightAheadOf_17 (by decide) (fun c2 => ?_) (fun c2 => ?_)
      · have hf := g_ift hf c2
        obtain rfl := g_some hf
        exact kk _ _ _ hP hS (lv_sub hl [3] rfl)
      · have hf := g_iff hf c2
        refine lv_aload_n hx hb dX3_weightAheadOf_20 rfl (lv_at hl 0 rfl) ?_
        refine lv_iload hx hb dX3_weightAheadOf_21 (lv_at hl 4 rfl) ?_
        obtain ⟨u3, h4, hf⟩ := g_bind hf
        refine g_vi (rest := []) X E hP hS (tcX3_yardsOf_now l G _ _ h4) (g_cwV X gX3_weightAheadOf_X3_yardsOf rfl hdX3_yardsOf ⟨Nat.le_of_ble_eq_true rfl, Nat.le_of_ble_eq_true rfl⟩) (rcX_now E hP) rfl hl.1 rfl (Nat.le_of_ble_eq_true rfl) dX3_weightAheadOf_23 ⟨Nat.le_refl _, Nat.le_refl _⟩ (fun H locs hP hS => ?_)
        refine lv_i2l hx hb dX3_weightAheadOf_26 rfl ?_
        refine lv_lstore (lv' := [(6, .long (u3).toInt64), (0, .ref (ga G 15)), (1, .int v1), (2, .int v2), (3, .long v3), (5, .int v5)]) hx hb dX3_weightAheadOf_27 hl (by decide) rfl (fun ls hl => ?_)
        refine lv_lload_n hx hb dX3_weightAheadOf_29 rfl (lv_at hl 4 rfl) ?_
        refine lv_iload_n hx hb dX3_weightAheadOf_30 rfl (lv_at hl 3 rfl) ?_
        refine lv_if_ne (tgt := 38) hx hb dX3_weightAheadOf_31 (by decide) (fun c5 => ?_) (fun c5 => ?_)
        · have hf := g_iff hf c5
          refine lv_iload_n hx hb dX3_weightAheadOf_38 rfl (lv_at hl 3 rfl) ?_
          refine lv_iconst (v := 1) hx hb dX3_weightAheadOf_39 (by decide) ?_
          refine lv_icmp_ne (tgt := 48) hx hb dX3_weightAheadOf_40 (by decide) (fun c6 => ?_) (fun c6 => ?_)
          · have hf := g_iff hf c6
            refine lv_lload hx hb dX3_weightAheadOf_48 (lv_at hl 0 rfl) ?_
            refine lv_lload hx hb dX3_weightAheadOf_50 (lv_at hl 0 rfl) ?_
            refine lv_lmul hx hb dX3_weightAheadOf_52 ?_
            refine lv_ladd hx hb dX3_weightAheadOf_53 ?_
            refine lv_lstore_n (lv' := [(3, .long (v3 + ((u3).toInt64 * (u3).toInt64))), (6, .long (u3).toInt64), (0, .ref (ga G 15)), (1, .int v1), (2, .int v2), (5, .int v5)]) hx hb dX3_weightAheadOf_54 rfl hl (by decide) rfl (fun ls hl => ?_)
            refine lv_iinc (v := (v5 + 1)) (lv' := [(5, .int (v5 + 1)), (3, .long (v3 + ((u3).toInt64 * (u3).toInt64))), (6, .long (u3).toInt64), (0, .ref (ga G 15)), (1, .int v1), (2, .int v2)]) hx hb dX3_weightAheadOf_55 hl (k := 5) rfl rfl (by decide) rfl (fun ls hl => ?_)
            refine lv_goto (tgt := 5) hx hb dX3_weightAheadOf_58 (by decide) ?_
            exact ih _ _ _ _ _ _ _ _ _ hf hP hS (lv_sub hl [3, 4, 5, 1, 0] rfl) kk
          · have hf := g_ift hf c6
            refine lv_lload hx hb dX3_weightAheadOf_43 (lv_at hl 0 rfl) ?_
            refine lv_goto (tgt := 53) hx hb dX3_weightAheadOf_45 (by decide) ?_
            refine lv_ladd hx hb dX3_weightAheadOf_53 ?_
            refine lv_lstore_n (lv' := [(3, .long (v3 + (u3).toInt64)), (6, .long (u3).toInt64), (0, .ref (ga G 15)), (1, .int v1), (2, .int v2), (5, .int v5)]) hx hb dX3_weightAheadOf_54 rfl hl (by decide) rfl (fun ls hl => ?_)
            refine lv_iinc (v := (v5 + 1)) (lv' := [(5, .int (v5 + 1)), (3, .long (v3 + (u3).toInt64)), (6, .long (u3).toInt64), (0, .ref (ga G 15)), (1, .int v1), (2, .int v2)]) hx hb dX3_weightAheadOf_55 hl (k := 5) rfl rfl (by decide) rfl (fun ls hl => ?_)
            refine lv_goto (tgt := 5) hx hb dX3_weightAheadOf_58 (by decide) ?_
            exact ih _ _ _ _ _ _ _ _ _ hf hP hS (lv_sub hl [3, 4, 5, 1, 0] rfl) kk
        · have hf := g_ift hf c5
          refine lv_lconst (v := 1) hx hb dX3_weightAheadOf_34 (by decide) ?_
          refine lv_goto (tgt := 53) hx hb dX3_weightAheadOf_35 (by decide) ?_
          refine lv_ladd hx hb dX3_weightAheadOf_53 ?_
          refine lv_lstore_n (lv' := [(3, .long (v3 + (1 : Int64))), (6, .long (u3).toInt64), (0, .ref (ga G 15)), (1, .int v1), (2, .int v2), (5, .int v5)]) hx hb dX3_weightAheadOf_54 rfl hl (by decide) rfl (fun ls hl => ?_)
          refine lv_iinc (v := (v5 + 1)) (lv' := [(5, .int (v5 + 1)), (3, .long (v3 + (1 : Int64))), (6, .long (u3).toInt64), (0, .ref (ga G 15)), (1, .int v1), (2, .int v2)]) hx hb dX3_weightAheadOf_55 hl (k := 5) rfl rfl (by decide) rfl (fun ls hl => ?_)
          refine lv_goto (tgt := 5) hx hb dX3_weightAheadOf_58 (by decide) ?_
          exact ih _ _ _ _ _ _ _ _ _ hf hP hS (lv_sub hl [3, 4, 5, 1, 0] rfl) kk
def fX3_weightAheadOf_now (S : GS) (a1 : Int32) (a2 : Int32) : Option Int64 :=
  (fX3_weightAheadOf_now_5 gFuel S a1 a2 (0 : Int64) (0 : Int32)).bind fun u7 =>
  some u7
set_option maxHeartbeats 4000000 in
set_option maxRecDepth 100000 in
theorem tcX3_weightAheadOf_now (l : Launch) (G : GP) (S : GS) (a1 : Int32) (a2 : Int32) {R : Int64} (hf : fX3_weightAheadOf_now S a1 a2 = some R) : CL l yX3_weightAheadOf wsX3_weightAheadOf 2 44 [.ref (ga G 15), .int a1, .int a2] WX G S R S := by
  refine g_met RX3 (cc := cX3_weightAheadOf) (nL := 8) (ret := (some .long)) (by decide) rfl rfl (Nat.le_of_ble_eq_true rfl) ?_
  intro p e s m below meth c ls X E hP hS hl
  have hl : lv_has ls 8 [(0, .ref (ga G 15)), (1, .int a1), (2, .int a2)] := hl
  obtain ⟨hx, hb, -, -, hown, hts, -⟩ := id X
  rw [fX3_weightAheadOf_now] at hf
  refine lv_lconst (v := 0) hx hb dX3_weightAheadOf_0 (by decide) ?_
  refine lv_lstore_n (lv' := [(3, .long (0 : Int64)), (0, .ref (ga G 15)), (1, .int a1), (2, .int a2)]) hx hb dX3_weightAheadOf_1 rfl hl (by decide) rfl (fun ls hl => ?_)
  refine lv_iconst (v := 0) hx hb dX3_weightAheadOf_2 (by decide) ?_
  refine lv_istore (lv' := [(5, .int (0 : Int32)), (3, .long (0 : Int64)), (0, .ref (ga G 15)), (1, .int a1), (2, .int a2)]) hx hb dX3_weightAheadOf_3 hl (by decide) rfl (fun ls hl => ?_)
  obtain ⟨u7, h8, hf⟩ := g_bind hf
  refine bX3_weightAheadOf_now_5 X E gFuel _ _ _ _ _ u7 _ _ _ h8 hP hS (lv_sub hl [2, 3, 4, 1, 0] rfl) (fun H locs ls hP hS hl => ?_)
  have hl : lv_has ls 8 [(3, .long u7)] := hl
  refine lv_lload_n hx hb dX3_weightAheadOf_61 rfl (lv_at hl 0 rfl) ?_
  obtain rfl := g_some hf
  exact g_rl X E hP hS dX3_weightAheadOf_62
def fX8_shareOf (S : GS) (a1 : Int32) (a2 : Int64) (a3 : Int64) : Option Int32 :=
  if (lg_cmp a3 (0 : Int64)) = 0 then
    some (0 : Int32)
  else
    if a3 = 0 then none else
    some ((((a1).toInt64 * a2) / a3)).toInt32
set_option maxHeartbeats 4000000 in
set_option maxRecDepth 100000 in
theorem tcX8_shareOf (l : Launch) (G : GP) (S : GS) (a1 : Int32) (a2 : Int64) (a3 : Int64) {R : Int32} (hf : fX8_shareOf S a1 a2 a3 = some R) : CI l yX8_shareOf wsX8_shareOf 0 0 [.int a1, .long a2, .long a3] WX G S R S := by
  refine g_met RX8 (cc := cX8_shareOf) (nL := 5) (ret := (some .int)) (by decide) rfl rfl (Nat.le_of_ble_eq_true rfl) ?_
  intro p e s m below meth c ls X E hP hS hl
  have hl : lv_has ls 5 [(0, .int a1), (1, .long a2), (3, .long a3)] := hl
  obtain ⟨hx, hb, -, -, hown, hts, -⟩ := id X
  rw [fX8_shareOf] at hf
  refine lv_lload_n hx hb dX8_shareOf_0 rfl (lv_at hl 2 rfl) ?_
  refine lv_lconst (v := 0) hx hb dX8_shareOf_1 (by decide) ?_
  refine W.lcmp hx hb dX8_shareOf_2 ?_
  refine lv_if_ne (tgt := 10) hx hb dX8_shareOf_3 (by decide) (fun c1 => ?_) (fun c1 => ?_)
  · have hf := g_iff hf c1
    refine lv_iload_n hx hb dX8_shareOf_10 rfl (lv_at hl 0 rfl) ?_
    refine lv_i2l hx hb dX8_shareOf_11 rfl ?_
    refine lv_lload_n hx hb dX8_shareOf_12 rfl (lv_at hl 1 rfl) ?_
    refine lv_lmul hx hb dX8_shareOf_13 ?_
    refine lv_lload_n hx hb dX8_shareOf_14 rfl (lv_at hl 2 rfl) ?_
    obtain ⟨z2, hf⟩ := g_if hf
    refine lv_ldiv hx hb dX8_shareOf_15 z2 ?_
    refine lv_l2i hx hb dX8_shareOf_16 rfl ?_
    obtain rfl := g_some hf
    exact g_ri X E hP hS dX8_shareOf_17
  · have hf := g_ift hf c1
    refine lv_iconst (v := 0) hx hb dX8_shareOf_6 (by decide) ?_
    refine lv_goto (tgt := 17) hx hb dX8_shareOf_7 (by decide) ?_
    obtain rfl := g_some hf
    exact g_ri X E hP hS dX8_shareOf_17
theorem lkX8_spread_0 : Cond.constant RX8 125 (-1000000 : Int32) ∈ wsX8_spread := by decide +kernel
theorem lkX8_spread_1 : Cond.fieldLink RX8 19 RX8 "now" "LBackToTheFirstStone$Loop;" ∈ wsX8_spread := by decide +kernel
theorem inX8_spread_X8 : ∀ w ∈ wsX80, w ∈ wsX8_spread := by decide +kernel
def fX8_spread_L44 (S : GS)  : Option (Int32 × GS) :=
  (fX8_refuse S (-5 : Int32)).bind fun u2 =>
  some (((-1000000 : Int32) + u2.1), u2.2)
set_option maxHeartbeats 4000000 in
set_option maxRecDepth 100000 in
theorem bX8_spread_L44 {p : Program} {l : Launch} {e : Env} {s : State} {m : MethodId} {args : Array Value} {below : List Frame} {meth : Method} {c : Code} {G : GP} (X : GX p s m meth c args cX8_spread 7 (some .int) wsX8_spread RX8) (E : gE WX G s) (S : GS)  (R : (Int32 × GS)) (H : Heap) (locs : List Loc) (ls : Array Slot) (hf : fX8_spread_L44 S  = some R) (hP : va_P (gD G) vwCl (WX G S ++ gF G) H) (hS : va_S (gA G) s.heap H locs) (hl : lv_has ls 7 [(0, .ref (ga G 63))]) : W p l e (gR 6 132) s m args below meth c H locs 0 0 (MQ below (gQi WX G R.1 R.2) args s 0 0 (gA G)) (F0 m 44 ls []) := by
  obtain ⟨hx, hb, -, -, hown, hts, -⟩ := id X
  rw [fX8_spread_L44] at hf
  refine lv_ldc hx hb hown (hts _ lkX8_spread_0) dX8_spread_44 ?_
  refine lv_aload_n hx hb dX8_spread_46 rfl (lv_at hl 0 rfl) ?_
  refine lv_bipush (v := -5) hx hb dX8_spread_47 (by decide) ?_
  obtain ⟨u2, h3, hf⟩ := g_bind hf
  refine g_vi (rest := [.int (-1000000 : Int32)]) X E hP hS (tcX8_refuse l G _ _ h3) (g_cwV X gX8_spread_X8_refuse rfl hdX8_refuse ⟨Nat.le_of_ble_eq_true rfl, Nat.le_of_ble_eq_true rfl⟩) (rcX_main E hP) rfl hl.1 rfl (Nat.le_of_ble_eq_true rfl) dX8_spread_49 ⟨Nat.le_refl _, Nat.le_refl _⟩ (fun H locs hP hS => ?_)
  refine lv_iadd hx hb dX8_spread_52 ?_
  obtain rfl := g_some hf
  exact g_ri X E hP hS dX8_spread_53
def fX8_spread_L28 (S : GS) (v1 : Int32) (v2 : Int32) : Option (Int32 × GS) :=
  fX8_spread_L44 S
set_option maxHeartbeats 4000000 in
set_option maxRecDepth 100000 in
theorem bX8_spread_L28 {p : Program} {l : Launch} {e : Env} {s : State} {m : MethodId} {args : Array Value} {below : List Frame} {meth : Method} {c : Code} {G : GP} (X : GX p s m meth c args cX8_spread 7 (some .int) wsX8_spread RX8) (E : gE WX G s) (S : GS) (v1 : Int32) (v2 : Int32) (R : (Int32 × GS)) (H : Heap) (locs : List Loc) (ls : Array Slot) (hf : fX8_spread_L28 S v1 v2 = some R) (hP : va_P (gD G) vwCl (WX G S ++ gF G) H) (hS : va_S (gA G) s.heap H locs) (hl : lv_has ls 7 [(0, .ref (ga G 63)), (1, .int v1), (2, .int v2)]) : W p l e (gR 6 132) s m args below meth c H locs 0 0 (MQ below (gQi WX G R.1 R.2) args s 0 0 (gA G)) (F0 m 28 ls []) := by
  obtain ⟨hx, hb, -, -, hown, hts, -⟩ := id X
  rw [fX8_spread_L28] at hf
  refine lv_iconst (v := 0) hx hb dX8_spread_28 (by decide) ?_
  refine lv_istore_n (lv' := [(3, .int (0 : Int32)), (0, .ref (ga G 63)), (1, .int v1), (2, .int v2)]) hx hb dX8_spread_29 rfl hl (by decide) rfl (fun ls hl => ?_)
  refine lv_iload_n hx hb dX8_spread_30 rfl (lv_at hl 0 rfl) ?_
  refine lv_if_eq (tgt := 44) hx hb dX8_spread_31 (by decide) (fun _ => ?_) (fun z => absurd z (by decide))
  exact bX8_spread_L44 X E _ _ _ _ _ hf hP hS (lv_sub hl [1] rfl)
def fX8_spread (S : GS) (a1 : Int32) (a2 : Int32) : Option (Int32 × GS) :=
  if a2 < 0 then
    fX8_spread_L28 S a1 a2
  else
    (fX3_count_now S).bind fun u4 =>
    if u4 < a2 then
      fX8_spread_L28 S a1 a2
    else
      if a1 < 0 then
        fX8_spread_L28 S a1 a2
      else
        if (2 : Int32) < a1 then
          fX8_spread_L28 S a1 a2
        else
          (fX3_count_now S).bind fun u9 =>
          if u9 = 0 then
            fX8_spread_L44 S
          else
            (fX3_count_now S).bind fun u12 =>
            (fX3_risesAheadOf_now S u12).bind fun u14 =>
            (fX3_weightAheadOf_now S a2 a1).bind fun u16 =>
            (fX3_heightAt_now S a2).bind fun u18 =>
            (fX3_count_now S).bind fun u20 =>
            (fX3_weightAheadOf_now S u20 a1).bind fun u22 =>
            (fX8_shareOf S u14 u16 u22).bind fun u24 =>
            some ((u18 - u24), S)
set_option maxHeartbeats 4000000 in
set_option maxRecDepth 100000 in
theorem tcX8_spread (l : Launch) (G : GP) (S : GS) (a1 : Int32) (a2 : Int32) {R : (Int32 × GS)} (hf : fX8_spread S a1 a2 = some R) : CI l yX8_spread wsX8_spread 6 132 [.ref (ga G 63), .int a1, .int a2] WX G S R.1 R.2 := by
  refine g_met RX8 (cc := cX8_spread) (nL := 7) (ret := (some .int)) (by decide) rfl rfl (Nat.le_of_ble_eq_true rfl) ?_
  intro p e s m below meth c ls X E hP hS hl
  have hl : lv_has ls 7 [(0, .ref (ga G 63)), (1, .int a1), (2, .int a2)] := hl
  obtain ⟨hx, hb, -, -, hown, hts, -⟩ := id X
  rw [fX8_spread] at hf
  refine lv_iload_n hx hb dX8_spread_0 rfl (lv_at hl 2 rfl) ?_
  refine lv_if_lt (tgt := 28) hx hb dX8_spread_1 (by decide) (fun c1 => ?_) (fun c1 => ?_)
  · have hf := g_ift hf c1
    exact bX8_spread_L28 X E _ _ _ _ _ _ _ hf hP hS (lv_sub hl [0, 1, 2] rfl)
  · have hf := g_iff hf c1
    refine lv_iload_n hx hb dX8_spread_4 rfl (lv_at hl 2 rfl) ?_
    refine lv_aload_n hx hb dX8_spread_5 rfl (lv_at hl 0 rfl) ?_
    refine ggX_49 X E hP inX8_spread_X8 lkX8_spread_1 dX8_spread_6 ?_
    obtain ⟨u4, h5, hf⟩ := g_bind hf
    refine g_vi (rest := [.int a2]) X E hP hS (tcX3_count_now l G _  h5) (g_cwV X gX8_spread_X3_count rfl hdX3_count ⟨Nat.le_of_ble_eq_true rfl, Nat.le_of_ble_eq_true rfl⟩) (rcX_now E hP) rfl hl.1 rfl (Nat.le_of_ble_eq_true rfl) dX8_spread_9 ⟨Nat.le_refl _, Nat.le_refl _⟩ (fun H locs hP hS => ?_)
    refine lv_icmp_gt (tgt := 28) hx hb dX8_spread_12 (by decide) (fun c6 => ?_) (fun c6 => ?_)
    · have hf := g_ift hf c6
      exact bX8_spread_L28 X E _ _ _ _ _ _ _ hf hP hS (lv_sub hl [0, 1, 2] rfl)
    · have hf := g_iff hf c6
      refine lv_iload_n hx hb dX8_spread_15 rfl (lv_at hl 1 rfl) ?_
      refine lv_if_lt (tgt := 28) hx hb dX8_spread_16 (by decide) (fun c7 => ?_) (fun c7 => ?_)
      · have hf := g_ift hf c7
        exact bX8_spread_L28 X E _ _ _ _ _ _ _ hf hP hS (lv_sub hl [0, 1, 2] rfl)
      · have hf := g_iff hf c7
        refine lv_iload_n hx hb dX8_spread_19 rfl (lv_at hl 1 rfl) ?_
        refine lv_iconst (v := 2) hx hb dX8_spread_20 (by decide) ?_
        refine lv_icmp_gt (tgt := 28) hx hb dX8_spread_21 (by decide) (fun c8 => ?_) (fun c8 => ?_)
        · have hf := g_ift hf c8
          exact bX8_spread_L28 X E _ _ _ _ _ _ _ hf hP hS (lv_sub hl [0, 1, 2] rfl)
        · have hf := g_iff hf c8
          refine lv_iconst (v := 1) hx hb dX8_spread_24 (by decide) ?_
          refine lv_goto (tgt := 29) hx hb dX8_spread_25 (by decide) ?_
          refine lv_istore_n (lv' := [(3, .int (1 : Int32)), (0, .ref (ga G 63)), (1, .int a1), (2, .int a2)]) hx hb dX8_spread_29 rfl hl (by decide) rfl (fun ls hl => ?_)
          refine lv_iload_n hx hb dX8_spread_30 rfl (lv_at hl 0 rfl) ?_
          refine lv_if_eq (tgt := 44) hx hb dX8_spread_31 (by decide) (fun z => absurd z (by decide)) (fun _ => ?_)
          refine lv_aload_n hx hb dX8_spread_34 rfl (lv_at hl 1 rfl) ?_
          refine ggX_49 X E hP inX8_spread_X8 lkX8_spread_1 dX8_spread_35 ?_
          obtain ⟨u9, h10, hf⟩ := g_bind hf
          refine g_vi (rest := []) X E hP hS (tcX3_count_now l G _  h10) (g_cwV X gX8_spread_X3_count rfl hdX3_count ⟨Nat.le_of_ble_eq_true rfl, Nat.le_of_ble_eq_true rfl⟩) (rcX_now E hP) rfl hl.1 rfl (Nat.le_of_ble_eq_true rfl) dX8_spread_38 ⟨Nat.le_refl _, Nat.le_refl _⟩ (fun H locs hP hS => ?_)
          refine lv_if_ne (tgt := 54) hx hb dX8_spread_41 (by decide) (fun c11 => ?_) (fun c11 => ?_)
          · have hf := g_iff hf c11
            refine lv_aload_n hx hb dX8_spread_54 rfl (lv_at hl 1 rfl) ?_
            refine ggX_49 X E hP inX8_spread_X8 lkX8_spread_1 dX8_spread_55 ?_
            refine lv_aload_n hx hb dX8_spread_58 rfl (lv_at hl 1 rfl) ?_
            refine ggX_49 X E hP inX8_spread_X8 lkX8_spread_1 dX8_spread_59 ?_
            obtain ⟨u12, h13, hf⟩ := g_bind hf
            refine g_vi (rest := [.ref (ga G 15)]) X E hP hS (tcX3_count_now l G _  h13) (g_cwV X gX8_spread_X3_count rfl hdX3_count ⟨Nat.le_of_ble_eq_true rfl, Nat.le_of_ble_eq_true rfl⟩) (rcX_now E hP) rfl hl.1 rfl (Nat.le_of_ble_eq_true rfl) dX8_spread_62 ⟨Nat.le_refl _, Nat.le_refl _⟩ (fun H locs hP hS => ?_)
            obtain ⟨u14, h15, hf⟩ := g_bind hf
            refine g_vi (rest := []) X E hP hS (tcX3_risesAheadOf_now l G _ _ h15) (g_cwV X gX8_spread_X3_risesAheadOf rfl hdX3_risesAheadOf ⟨Nat.le_of_ble_eq_true rfl, Nat.le_of_ble_eq_true rfl⟩) (rcX_now E hP) rfl hl.1 rfl (Nat.le_of_ble_eq_true rfl) dX8_spread_65 ⟨Nat.le_refl _, Nat.le_refl _⟩ (fun H locs hP hS => ?_)
            refine lv_istore (lv' := [(4, .int u14), (3, .int (1 : Int32)), (0, .ref (ga G 63)), (1, .int a1), (2, .int a2)]) hx hb dX8_spread_68 hl (by decide) rfl (fun ls hl => ?_)
            refine lv_aload_n hx hb dX8_spread_70 rfl (lv_at hl 2 rfl) ?_
            refine ggX_49 X E hP inX8_spread_X8 lkX8_spread_1 dX8_spread_71 ?_
            refine lv_iload_n hx hb dX8_spread_74 rfl (lv_at hl 4 rfl) ?_
            refine lv_iload_n hx hb dX8_spread_75 rfl (lv_at hl 3 rfl) ?_
            obtain ⟨u16, h17, hf⟩ := g_bind hf
            refine g_vl (rest := []) X E hP hS (tcX3_weightAheadOf_now l G _ _ _ h17) (g_cwV X gX8_spread_X3_weightAheadOf rfl hdX3_weightAheadOf ⟨Nat.le_of_ble_eq_true rfl, Nat.le_of_ble_eq_true rfl⟩) (rcX_now E hP) rfl hl.1 rfl (Nat.le_of_ble_eq_true rfl) dX8_spread_76 ⟨Nat.le_refl _, Nat.le_refl _⟩ (fun H locs hP hS => ?_)
            refine lv_lstore (lv' := [(5, .long u16), (4, .int u14), (3, .int (1 : Int32)), (0, .ref (ga G 63)), (1, .int a1), (2, .int a2)]) hx hb dX8_spread_79 hl (by decide) rfl (fun ls hl => ?_)
            refine lv_aload_n hx hb dX8_spread_81 rfl (lv_at hl 3 rfl) ?_
            refine ggX_49 X E hP inX8_spread_X8 lkX8_spread_1 dX8_spread_82 ?_
            refine lv_iload_n hx hb dX8_spread_85 rfl (lv_at hl 5 rfl) ?_
            obtain ⟨u18, h19, hf⟩ := g_bind hf
            refine g_vi (rest := []) X E hP hS (tcX3_heightAt_now l G _ _ h19) (g_cwV X gX8_spread_X3_heightAt rfl hdX3_heightAt ⟨Nat.le_of_ble_eq_true rfl, Nat.le_of_ble_eq_true rfl⟩) (rcX_now E hP) rfl hl.1 rfl (Nat.le_of_ble_eq_true rfl) dX8_spread_86 ⟨Nat.le_refl _, Nat.le_refl _⟩ (fun H locs hP hS => ?_)
            refine lv_iload hx hb dX8_spread_89 (lv_at hl 1 rfl) ?_
            refine lv_lload hx hb dX8_spread_91 (lv_at hl 0 rfl) ?_
            refine lv_aload_n hx hb dX8_spread_93 rfl (lv_at hl 3 rfl) ?_
            refine ggX_49 X E hP inX8_spread_X8 lkX8_spread_1 dX8_spread_94 ?_
            refine lv_aload_n hx hb dX8_spread_97 rfl (lv_at hl 3 rfl) ?_
            refine ggX_49 X E hP inX8_spread_X8 lkX8_spread_1 dX8_spread_98 ?_
            obtain ⟨u20, h21, hf⟩ := g_bind hf
            refine g_vi (rest := [.ref (ga G 15), .long u16, .int u14, .int u18]) X E hP hS (tcX3_count_now l G _  h21) (g_cwV X gX8_spread_X3_count rfl hdX3_count ⟨Nat.le_of_ble_eq_true rfl, Nat.le_of_ble_eq_true rfl⟩) (rcX_now E hP) rfl hl.1 rfl (Nat.le_of_ble_eq_true rfl) dX8_spread_101 ⟨Nat.le_refl _, Nat.le_refl _⟩ (fun H locs hP hS => ?_)
            refine lv_iload_n hx hb dX8_spread_104 rfl (lv_at hl 4 rfl) ?_
            obtain ⟨u22, h23, hf⟩ := g_bind hf
            refine g_vl (rest := [.long u16, .int u14, .int u18]) X E hP hS (tcX3_weightAheadOf_now l G _ _ _ h23) (g_cwV X gX8_spread_X3_weightAheadOf rfl hdX3_weightAheadOf ⟨Nat.le_of_ble_eq_true rfl, Nat.le_of_ble_eq_true rfl⟩) (rcX_now E hP) rfl hl.1 rfl (Nat.le_of_ble_eq_true rfl) dX8_spread_105 ⟨Nat.le_refl _, Nat.le_refl _⟩ (fun H locs hP hS => ?_)
            obtain ⟨u24, h25, hf⟩ := g_bind hf
            refine g_si (rest := [.int u18]) X E hP hS (tcX8_shareOf l G _ _ _ _ h25) (g_cwS X gX8_spread_X8_shareOf rfl hdX8_shareOf ⟨Nat.le_of_ble_eq_true rfl, Nat.le_of_ble_eq_true rfl⟩) rfl hl.1 rfl (Nat.le_of_ble_eq_true rfl) dX8_spread_108 ⟨Nat.le_refl _, Nat.le_refl _⟩ (fun H locs hP hS => ?_)
            refine lv_isub hx hb dX8_spread_111 ?_
            obtain rfl := g_some hf
            exact g_ri X E hP hS dX8_spread_112
          · have hf := g_ift hf c11
            exact bX8_spread_L44 X E _ _ _ _ _ hf hP hS (lv_sub hl [1] rfl)
theorem lkX7_consider_0 : Cond.fieldLink RX7 54 RX7 "reading" "I" ∈ wsX7_consider := by decide +kernel
theorem lkX7_consider_1 : Cond.fieldLink RX7 42 RX7 "behind" "I" ∈ wsX7_consider := by decide +kernel
theorem lkX7_consider_2 : Cond.fieldLink RX7 51 RX7 "othersOff" "I" ∈ wsX7_consider := by decide +kernel
theorem lkX7_consider_3 : Cond.fieldLink RX7 35 RX7 "setUp" "I" ∈ wsX7_consider := by decide +kernel
theorem lkX7_consider_4 : Cond.fieldLink RX7 7 RX7 "foundInAll" "I" ∈ wsX7_consider := by decide +kernel
theorem lkX7_consider_5 : Cond.fieldLink RX7 13 RX7 "firstSetUp" "I" ∈ wsX7_consider := by decide +kernel
theorem lkX7_consider_6 : Cond.fieldLink RX7 16 RX7 "firstReading" "I" ∈ wsX7_consider := by decide +kernel
theorem lkX7_consider_7 : Cond.fieldLink RX7 19 RX7 "firstSort" "I" ∈ wsX7_consider := by decide +kernel
theorem lkX7_consider_8 : Cond.fieldLink RX7 22 RX7 "firstValue" "I" ∈ wsX7_consider := by decide +kernel
theorem lkX7_consider_9 : Cond.fieldLink RX7 45 RX7 "ahead" "I" ∈ wsX7_consider := by decide +kernel
theorem inX7_consider_X7 : ∀ w ∈ wsX70, w ∈ wsX7_consider := by decide +kernel
def fX7_consider_now_L107 (S : GS)  : Option GS :=
  some (gU1 S 96 ((S.1 96) + (1 : Int32)))
set_option maxHeartbeats 4000000 in
set_option maxRecDepth 100000 in
theorem bX7_consider_now_L107 {p : Program} {l : Launch} {e : Env} {s : State} {m : MethodId} {args : Array Value} {below : List Frame} {meth : Method} {c : Code} {G : GP} (X : GX p s m meth c args cX7_consider 5 none wsX7_consider RX7) (E : gE WX G s) (S : GS)  (R : GS) (H : Heap) (locs : List Loc) (ls : Array Slot) (hf : fX7_consider_now_L107 S  = some R) (hP : va_P (gD G) vwCl (WX G S ++ gF G) H) (hS : va_S (gA G) s.heap H locs) (hl : lv_has ls 5 [(0, .ref (ga G 111))]) : W p l e (gR 3 66) s m args below meth c H locs 0 0 (MQ below (gQv WX G R) args s 0 0 (gA G)) (F0 m 107 ls []) := by
  obtain ⟨hx, hb, -, -, hown, hts, -⟩ := id X
  rw [fX7_consider_now_L107] at hf
  refine lv_aload_n hx hb dX7_consider_107 rfl (lv_at hl 0 rfl) ?_
  refine lv_dup hx hb dX7_consider_108 rfl ?_
  refine ggX_96 X E hP inX7_consider_X7 lkX7_consider_4 dX7_consider_109 ?_
  refine lv_iconst (v := 1) hx hb dX7_consider_112 (by decide) ?_
  refine lv_iadd hx hb dX7_consider_113 ?_
  refine gpX_96 X E hP hS inX7_consider_X7 lkX7_consider_4 dX7_consider_114 (fun H locs hP hS => ?_)
  obtain rfl := g_some hf
  exact g_rv X E hP hS dX7_consider_117
def fX7_consider_now_L52 (S : GS) (v2 : Int32) (v3 : Int32) (v4 : Int32) : Option GS :=
  (fX3_errorOf_now S (S.1 101) v4).bind fun u5 =>
  if (((S.1 104) + v4) - u5) = 0 then
    if (S.1 96) = 0 then
      fX7_consider_now_L107 (gU1 (gU1 (gU1 (gU1 S 97 (S.1 101)) 98 ((gU1 S 97 (S.1 101)).1 105)) 99 v2) 100 v3)
    else
      fX7_consider_now_L107 S
  else
    some S
set_option maxHeartbeats 4000000 in
set_option maxRecDepth 100000 in
theorem bX7_consider_now_L52 {p : Program} {l : Launch} {e : Env} {s : State} {m : MethodId} {args : Array Value} {below : List Frame} {meth : Method} {c : Code} {G : GP} (X : GX p s m meth c args cX7_consider 5 none wsX7_consider RX7) (E : gE WX G s) (S : GS) (v2 : Int32) (v3 : Int32) (v4 : Int32) (R : GS) (H : Heap) (locs : List Loc) (ls : Array Slot) (hf : fX7_consider_now_L52 S v2 v3 v4 = some R) (hP : va_P (gD G) vwCl (WX G S ++ gF G) H) (hS : va_S (gA G) s.heap H locs) (hl : lv_has ls 5 [(0, .ref (ga G 111)), (1, .ref (ga G 15)), (2, .int v2), (3, .int v3), (4, .int v4)]) : W p l e (gR 3 66) s m args below meth c H locs 0 0 (MQ below (gQv WX G R) args s 0 0 (gA G)) (F0 m 52 ls []) := by
  obtain ⟨hx, hb, -, -, hown, hts, -⟩ := id X
  rw [fX7_consider_now_L52] at hf
  refine lv_aload_n hx hb dX7_consider_52 rfl (lv_at hl 0 rfl) ?_
  refine ggX_104 X E hP inX7_consider_X7 lkX7_consider_2 dX7_consider_53 ?_
  refine lv_iload hx hb dX7_consider_56 (lv_at hl 4 rfl) ?_
  refine lv_iadd hx hb dX7_consider_58 ?_
  refine lv_aload_n hx hb dX7_consider_59 rfl (lv_at hl 1 rfl) ?_
  refine lv_aload_n hx hb dX7_consider_60 rfl (lv_at hl 0 rfl) ?_
  refine ggX_101 X E hP inX7_consider_X7 lkX7_consider_3 dX7_consider_61 ?_
  refine lv_iload hx hb dX7_consider_64 (lv_at hl 4 rfl) ?_
  obtain ⟨u5, h6, hf⟩ := g_bind hf
  refine g_vi (rest := [.int ((S.1 104) + v4)]) X E hP hS (tcX3_errorOf_now l G _ _ _ h6) (g_cwV X gX7_consider_X3_errorOf rfl hdX3_errorOf ⟨Nat.le_of_ble_eq_true rfl, Nat.le_of_ble_eq_true rfl⟩) (rcX_now E hP) rfl hl.1 rfl (Nat.le_of_ble_eq_true rfl) dX7_consider_66 ⟨Nat.le_refl _, Nat.le_refl _⟩ (fun H locs hP hS => ?_)
  refine lv_isub hx hb dX7_consider_69 ?_
  refine lv_if_eq (tgt := 74) hx hb dX7_consider_70 (by decide) (fun c7 => ?_) (fun c7 => ?_)
  · have hf := g_ift hf c7
    refine lv_aload_n hx hb dX7_consider_74 rfl (lv_at hl 0 rfl) ?_
    refine ggX_96 X E hP inX7_consider_X7 lkX7_consider_4 dX7_consider_75 ?_
    refine lv_if_ne (tgt := 107) hx hb dX7_consider_78 (by decide) (fun c8 => ?_) (fun c8 => ?_)
    · have hf := g_iff hf c8
      exact bX7_consider_now_L107 X E _ _ _ _ _ hf hP hS (lv_sub hl [0] rfl)
    · have hf := g_ift hf c8
      refine lv_aload_n hx hb dX7_consider_81 rfl (lv_at hl 0 rfl) ?_
      refine lv_aload_n hx hb dX7_consider_82 rfl (lv_at hl 0 rfl) ?_
      refine ggX_101 X E hP inX7_consider_X7 lkX7_consider_3 dX7_consider_83 ?_
      refine gpX_97 X E hP hS inX7_consider_X7 lkX7_consider_5 dX7_consider_86 (fun H locs hP hS => ?_)
      refine lv_aload_n hx hb dX7_consider_89 rfl (lv_at hl 0 rfl) ?_
      refine lv_aload_n hx hb dX7_consider_90 rfl (lv_at hl 0 rfl) ?_
      refine ggX_105 X E hP inX7_consider_X7 lkX7_consider_0 dX7_consider_91 ?_
      refine gpX_98 X E hP hS inX7_consider_X7 lkX7_consider_6 dX7_consider_94 (fun H locs hP hS => ?_)
      refine lv_aload_n hx hb dX7_consider_97 rfl (lv_at hl 0 rfl) ?_
      refine lv_iload_n hx hb dX7_consider_98 rfl (lv_at hl 2 rfl) ?_
      refine gpX_99 X E hP hS inX7_consider_X7 lkX7_consider_7 dX7_consider_99 (fun H locs hP hS => ?_)
      refine lv_aload_n hx hb dX7_consider_102 rfl (lv_at hl 0 rfl) ?_
      refine lv_iload_n hx hb dX7_consider_103 rfl (lv_at hl 3 rfl) ?_
      refine gpX_100 X E hP hS inX7_consider_X7 lkX7_consider_8 dX7_consider_104 (fun H locs hP hS => ?_)
      exact bX7_consider_now_L107 X E _ _ _ _ _ hf hP hS (lv_sub hl [0] rfl)
  · have hf := g_iff hf c7
    obtain rfl := g_some hf
    exact g_rv X E hP hS dX7_consider_73
def fX7_consider_now (S : GS) (a1 : Int32) (a2 : Int32) : Option GS :=
  if a2 < 0 then
    some S
  else
    if a2 ≤ (9999 : Int32) then
      if (S.1 105) = 0 then
        if a1 = (5 : Int32) then
          fX7_consider_now_L52 S a1 a2 ((S.1 103) - (S.1 102))
        else
          fX7_consider_now_L52 S a1 a2 (a2 - (S.1 103))
      else
        if a1 = (5 : Int32) then
          fX7_consider_now_L52 S a1 a2 ((S.1 103) - (S.1 102))
        else
          fX7_consider_now_L52 S a1 a2 ((S.1 102) - a2)
    else
      some S
set_option maxHeartbeats 4000000 in
set_option maxRecDepth 100000 in
theorem tcX7_consider_now (l : Launch) (G : GP) (S : GS) (a1 : Int32) (a2 : Int32) {R : GS} (hf : fX7_consider_now S a1 a2 = some R) : CV l yX7_consider wsX7_consider 3 66 [.ref (ga G 111), .ref (ga G 15), .int a1, .int a2] WX G S R := by
  refine g_met RX7 (cc := cX7_consider) (nL := 5) (ret := none) (by decide) rfl rfl (Nat.le_of_ble_eq_true rfl) ?_
  intro p e s m below meth c ls X E hP hS hl
  have hl : lv_has ls 5 [(0, .ref (ga G 111)), (1, .ref (ga G 15)), (2, .int a1), (3, .int a2)] := hl
  obtain ⟨hx, hb, -, -, hown, hts, -⟩ := id X
  rw [fX7_consider_now] at hf
  refine lv_iload_n hx hb dX7_consider_0 rfl (lv_at hl 3 rfl) ?_
  refine lv_if_lt (tgt := 11) hx hb dX7_consider_1 (by decide) (fun c1 => ?_) (fun c1 => ?_)
  · have hf := g_ift hf c1
    obtain rfl := g_some hf
    exact g_rv X E hP hS dX7_consider_11
  · have hf := g_iff hf c1
    refine lv_iload_n hx hb dX7_consider_4 rfl (lv_at hl 3 rfl) ?_
    refine lv_sipush (v := 9999) hx hb dX7_consider_5 (by decide) ?_
    refine lv_icmp_le (tgt := 12) hx hb dX7_consider_8 (by decide) (fun c2 => ?_) (fun c2 => ?_)
    · have hf := g_ift hf c2
      refine lv_aload_n hx hb dX7_consider_12 rfl (lv_at hl 0 rfl) ?_
      refine ggX_105 X E hP inX7_consider_X7 lkX7_consider_0 dX7_consider_13 ?_
      refine lv_if_ne (tgt := 28) hx hb dX7_consider_16 (by decide) (fun c3 => ?_) (fun c3 => ?_)
      · have hf := g_iff hf c3
        refine lv_aload_n hx hb dX7_consider_28 rfl (lv_at hl 0 rfl) ?_
        refine ggX_102 X E hP inX7_consider_X7 lkX7_consider_1 dX7_consider_29 ?_
        refine lv_iload_n hx hb dX7_consider_32 rfl (lv_at hl 3 rfl) ?_
        refine lv_isub hx hb dX7_consider_33 ?_
        refine lv_istore (lv' := [(4, .int ((S.1 102) - a2)), (0, .ref (ga G 111)), (1, .ref (ga G 15)), (2, .int a1), (3, .int a2)]) hx hb dX7_consider_34 hl (by decide) rfl (fun ls hl => ?_)
        refine lv_iload_n hx hb dX7_consider_36 rfl (lv_at hl 3 rfl) ?_
        refine lv_iconst (v := 5) hx hb dX7_consider_37 (by decide) ?_
        refine lv_icmp_ne (tgt := 52) hx hb dX7_consider_38 (by decide) (fun c4 => ?_) (fun c4 => ?_)
        · have hf := g_iff hf c4
          exact bX7_consider_now_L52 X E _ _ _ _ _ _ _ _ hf hP hS (lv_sub hl [1, 2, 3, 4, 0] rfl)
        · have hf := g_ift hf c4
          refine lv_aload_n hx hb dX7_consider_41 rfl (lv_at hl 1 rfl) ?_
          refine ggX_103 X E hP inX7_consider_X7 lkX7_consider_9 dX7_consider_42 ?_
          refine lv_aload_n hx hb dX7_consider_45 rfl (lv_at hl 1 rfl) ?_
          refine ggX_102 X E hP inX7_consider_X7 lkX7_consider_1 dX7_consider_46 ?_
          refine lv_isub hx hb dX7_consider_49 ?_
          refine lv_istore (lv' := [(4, .int ((S.1 103) - (S.1 102))), (0, .ref (ga G 111)), (1, .ref (ga G 15)), (2, .int a1), (3, .int a2)]) hx hb dX7_consider_50 hl (by decide) rfl (fun ls hl => ?_)
          exact bX7_consider_now_L52 X E _ _ _ _ _ _ _ _ hf hP hS (lv_sub hl [1, 2, 3, 4, 0] rfl)
      · have hf := g_ift hf c3
        refine lv_iload_n hx hb dX7_consider_19 rfl (lv_at hl 3 rfl) ?_
        refine lv_aload_n hx hb dX7_consider_20 rfl (lv_at hl 0 rfl) ?_
        refine ggX_103 X E hP inX7_consider_X7 lkX7_consider_9 dX7_consider_21 ?_
        refine lv_isub hx hb dX7_consider_24 ?_
        refine lv_goto (tgt := 34) hx hb dX7_consider_25 (by decide) ?_
        refine lv_istore (lv' := [(4, .int (a2 - (S.1 103))), (0, .ref (ga G 111)), (1, .ref (ga G 15)), (2, .int a1), (3, .int a2)]) hx hb dX7_consider_34 hl (by decide) rfl (fun ls hl => ?_)
        refine lv_iload_n hx hb dX7_consider_36 rfl (lv_at hl 3 rfl) ?_
        refine lv_iconst (v := 5) hx hb dX7_consider_37 (by decide) ?_
        refine lv_icmp_ne (tgt := 52) hx hb dX7_consider_38 (by decide) (fun c9 => ?_) (fun c9 => ?_)
        · have hf := g_iff hf c9
          exact bX7_consider_now_L52 X E _ _ _ _ _ _ _ _ hf hP hS (lv_sub hl [1, 2, 3, 4, 0] rfl)
        · have hf := g_ift hf c9
          refine lv_aload_n hx hb dX7_consider_41 rfl (lv_at hl 1 rfl) ?_
          refine ggX_103 X E hP inX7_consider_X7 lkX7_consider_9 dX7_consider_42 ?_
          refine lv_aload_n hx hb dX7_consider_45 rfl (lv_at hl 1 rfl) ?_
          refine ggX_102 X E hP inX7_consider_X7 lkX7_consider_1 dX7_consider_46 ?_
          refine lv_isub hx hb dX7_consider_49 ?_
          refine lv_istore (lv' := [(4, .int ((S.1 103) - (S.1 102))), (0, .ref (ga G 111)), (1, .ref (ga G 15)), (2, .int a1), (3, .int a2)]) hx hb dX7_consider_50 hl (by decide) rfl (fun ls hl => ?_)
          exact bX7_consider_now_L52 X E _ _ _ _ _ _ _ _ hf hP hS (lv_sub hl [1, 2, 3, 4, 0] rfl)
    · have hf := g_iff hf c2
      obtain rfl := g_some hf
      exact g_rv X E hP hS dX7_consider_11
def fX7_slipsOf_now_4 : Nat → GS → Int32 → Int32 → Option GS
  | 0, _, _, _ => none
  | fu + 1, S, v2, v3 =>
    if v3 < (1 : Int32) then
      some S
    else
      if v3 = 0 then none else
      if ((v2 / v3) - (v2 / v3) / (10 : Int32) * (10 : Int32)) = (6 : Int32) then
        (fX7_consider_now S (0 : Int32) (v2 + ((3 : Int32) * v3))).bind fun u4 =>
        fX7_slipsOf_now_4 fu u4 v2 (v3 / (10 : Int32))
      else
        fX7_slipsOf_now_4 fu S v2 (v3 / (10 : Int32))
set_option maxHeartbeats 4000000 in
set_option maxRecDepth 100000 in
theorem bX7_slipsOf_now_4 {p : Program} {l : Launch} {e : Env} {s : State} {m : MethodId} {args : Array Value} {below : List Frame} {meth : Method} {c : Code} {Q : State → Prop} {G : GP} (X : GX p s m meth c args cX7_slipsOf 6 none wsX7_slipsOf RX7) (E : gE WX G s)  : ∀ (fu : Nat) (S : GS) (v2 : Int32) (v3 : Int32) (R : GS) (H : Heap) (locs : List Loc) (ls : Array Slot) (_ : fX7_slipsOf_now_4 fu S v2 v3 = some R) (_ : va_P (gD G) vwCl (WX G S ++ gF G) H) (_ : va_S (gA G) s.heap H locs) (_ : lv_has ls 6 [(0, .ref (ga G 111)), (1, .ref (ga G 15)), (2, .int v2), (3, .int v3)]) (_ : ∀ (H : Heap) (locs : List Loc) (ls : Array Slot), va_P (gD G) vwCl (WX G R ++ gF G) H → va_S (gA G) s.heap H locs → lv_has ls 6 [(0, .ref (ga G 111)), (1, .ref (ga G 15)), (2, .int v2)] → W p l e (gR 4 90) s m args below meth c H locs 0 0 Q (F0 m 39 ls [])), W p l e (gR 4 90) s m args below meth c H locs 0 0 Q (F0 m 4 ls []) := by
  obtain ⟨hx, hb, -, -, hown, hts, -⟩ := id X
  intro fu
  induction fu with
  | zero =>
    intro S v2 v3 R H locs ls hf
    cases (show (none : Option GS) = some R from hf)
  | succ fu ih =>
    intro S v2 v3 R H locs ls hf hP hS hl kk
    rw [fX7_slipsOf_now_4] at hf
    refine lv_iload_n hx hb dX7_slipsOf_4 rfl (lv_at hl 3 rfl) ?_
    refine lv_iconst (v := 1) hx hb dX7_slipsOf_5 (by decide) ?_
    refine lv_icmp_lt (tgt := 39) hx hb dX7_slipsOf_6 (by decide) (fun c1 => ?_) (fun c1 => ?_)
    · have hf := g_ift hf c1
      obtain rfl := g_some hf
      exact kk _ _ _ hP hS (lv_sub hl [0, 1, 2] rfl)
    · have hf := g_iff hf c1
      refine lv_iload_n hx hb dX7_slipsOf_9 rfl (lv_at hl 2 rfl) ?_
      refine lv_iload_n hx hb dX7_slipsOf_10 rfl (lv_at hl 3 rfl) ?_
      obtain ⟨z2, hf⟩ := g_if hf
      refine lv_idiv hx hb dX7_slipsOf_11 z2 ?_
      refine lv_bipush (v := 10) hx hb dX7_slipsOf_12 (by decide) ?_
      refine lv_irem hx hb dX7_slipsOf_14 (by decide) ?_
      refine lv_bipush (v := 6) hx hb dX7_slipsOf_15 (by decide) ?_
      refine lv_icmp_ne (tgt := 31) hx hb dX7_slipsOf_17 (by decide) (fun c3 => ?_) (fun c3 => ?_)
      · have hf := g_iff hf c3
        refine lv_iload_n hx hb dX7_slipsOf_31 rfl (lv_at hl 3 rfl) ?_
        refine lv_bipush (v := 10) hx hb dX7_slipsOf_32 (by decide) ?_
        refine lv_idiv hx hb dX7_slipsOf_34 (by decide) ?_
        refine lv_istore_n (lv' := [(3, .int (v3 / (10 : Int32))), (0, .ref (ga G 111)), (1, .ref (ga G 15)), (2, .int v2)]) hx hb dX7_slipsOf_35 rfl hl (by decide) rfl (fun ls hl => ?_)
        refine lv_goto (tgt := 4) hx hb dX7_slipsOf_36 (by decide) ?_
        exact ih _ _ _ _ _ _ _ hf hP hS (lv_sub hl [1, 2, 3, 0] rfl) kk
      · have hf := g_ift hf c3
        refine lv_aload_n hx hb dX7_slipsOf_20 rfl (lv_at hl 0 rfl) ?_
        refine lv_aload_n hx hb dX7_slipsOf_21 rfl (lv_at hl 1 rfl) ?_
        refine lv_iconst (v := 0) hx hb dX7_slipsOf_22 (by decide) ?_
        refine lv_iload_n hx hb dX7_slipsOf_23 rfl (lv_at hl 2 rfl) ?_
        refine lv_iconst (v := 3) hx hb dX7_slipsOf_24 (by decide) ?_
        refine lv_iload_n hx hb dX7_slipsOf_25 rfl (lv_at hl 3 rfl) ?_
        refine lv_imul hx hb dX7_slipsOf_26 ?_
        refine lv_iadd hx hb dX7_slipsOf_27 ?_
        obtain ⟨u4, h5, hf⟩ := g_bind hf
        refine g_vv (rest := []) X E hP hS (tcX7_consider_now l G _ _ _ h5) (g_cwV X gX7_slipsOf_X7_consider rfl hdX7_consider ⟨Nat.le_of_ble_eq_true rfl, Nat.le_of_ble_eq_true rfl⟩) (rcX_slips E hP) rfl hl.1 rfl (Nat.le_of_ble_eq_true rfl) dX7_slipsOf_28 ⟨Nat.le_refl _, Nat.le_refl _⟩ (fun H locs hP hS => ?_)
        refine lv_iload_n hx hb dX7_slipsOf_31 rfl (lv_at hl 3 rfl) ?_
        refine lv_bipush (v := 10) hx hb dX7_slipsOf_32 (by decide) ?_
        refine lv_idiv hx hb dX7_slipsOf_34 (by decide) ?_
        refine lv_istore_n (lv' := [(3, .int (v3 / (10 : Int32))), (0, .ref (ga G 111)), (1, .ref (ga G 15)), (2, .int v2)]) hx hb dX7_slipsOf_35 rfl hl (by decide) rfl (fun ls hl => ?_)
        refine lv_goto (tgt := 4) hx hb dX7_slipsOf_36 (by decide) ?_
        exact ih _ _ _ _ _ _ _ hf hP hS (lv_sub hl [1, 2, 3, 0] rfl) kk
def fX7_slipsOf_now_43 : Nat → GS → Int32 → Int32 → Option GS
  | 0, _, _, _ => none
  | fu + 1, S, v2, v3 =>
    if v3 < (1 : Int32) then
      some S
    else
      if v3 = 0 then none else
      if ((v2 / v3) - (v2 / v3) / (10 : Int32) * (10 : Int32)) = (9 : Int32) then
        (fX7_consider_now S (1 : Int32) (v2 - ((3 : Int32) * v3))).bind fun u11 =>
        fX7_slipsOf_now_43 fu u11 v2 (v3 / (10 : Int32))
      else
        fX7_slipsOf_now_43 fu S v2 (v3 / (10 : Int32))
set_option maxHeartbeats 4000000 in
set_option maxRecDepth 100000 in
theorem bX7_slipsOf_now_43 {p : Program} {l : Launch} {e : Env} {s : State} {m : MethodId} {args : Array Value} {below : List Frame} {meth : Method} {c : Code} {Q : State → Prop} {G : GP} (X : GX p s m meth c args cX7_slipsOf 6 none wsX7_slipsOf RX7) (E : gE WX G s)  : ∀ (fu : Nat) (S : GS) (v2 : Int32) (v3 : Int32) (R : GS) (H : Heap) (locs : List Loc) (ls : Array Slot) (_ : fX7_slipsOf_now_43 fu S v2 v3 = some R) (_ : va_P (gD G) vwCl (WX G S ++ gF G) H) (_ : va_S (gA G) s.heap H locs) (_ : lv_has ls 6 [(0, .ref (ga G 111)), (1, .ref (ga G 15)), (2, .int v2), (3, .int v3)]) (_ : ∀ (H : Heap) (locs : List Loc) (ls : Array Slot), va_P (gD G) vwCl (WX G R ++ gF G) H → va_S (gA G) s.heap H locs → lv_has ls 6 [(0, .ref (ga G 111)), (1, .ref (ga G 15)), (2, .int v2)] → W p l e (gR 4 90) s m args below meth c H locs 0 0 Q (F0 m 78 ls [])), W p l e (gR 4 90) s m args below meth c H locs 0 0 Q (F0 m 43 ls []) := by
  obtain ⟨hx, hb, -, -, hown, hts, -⟩ := id X
  intro fu
  induction fu with
  | zero =>
    intro S v2 v3 R H locs ls hf
    cases (show (none : Option GS) = some R from hf)
  | succ fu ih =>
    intro S v2 v3 R H locs ls hf hP hS hl kk
    rw [fX7_slipsOf_now_43] at hf
    refine lv_iload_n hx hb dX7_slipsOf_43 rfl (lv_at hl 3 rfl) ?_
    refine lv_iconst (v := 1) hx hb dX7_slipsOf_44 (by decide) ?_
    refine lv_icmp_lt (tgt := 78) hx hb dX7_slipsOf_45 (by decide) (fun c8 => ?_) (fun c8 => ?_)
    · have hf := g_ift hf c8
      obtain rfl := g_some hf
      exact kk _ _ _ hP hS (lv_sub hl [0, 1, 2] rfl)
    · have hf := g_iff hf c8
      refine lv_iload_n hx hb dX7_slipsOf_48 rfl (lv_at hl 2 rfl) ?_
      refine lv_iload_n hx hb dX7_slipsOf_49 rfl (lv_at hl 3 rfl) ?_
      obtain ⟨z9, hf⟩ := g_if hf
      refine lv_idiv hx hb dX7_slipsOf_50 z9 ?_
      refine lv_bipush (v := 10) hx hb dX7_slipsOf_51 (by decide) ?_
      refine lv_irem hx hb dX7_slipsOf_53 (by decide) ?_
      refine lv_bipush (v := 9) hx hb dX7_slipsOf_54 (by decide) ?_
      refine lv_icmp_ne (tgt := 70) hx hb dX7_slipsOf_56 (by decide) (fun c10 => ?_) (fun c10 => ?_)
      · have hf := g_iff hf c10
        refine lv_iload_n hx hb dX7_slipsOf_70 rfl (lv_at hl 3 rfl) ?_
        refine lv_bipush (v := 10) hx hb dX7_slipsOf_71 (by decide) ?_
        refine lv_idiv hx hb dX7_slipsOf_73 (by decide) ?_
        refine lv_istore_n (lv' := [(3, .int (v3 / (10 : Int32))), (0, .ref (ga G 111)), (1, .ref (ga G 15)), (2, .int v2)]) hx hb dX7_slipsOf_74 rfl hl (by decide) rfl (fun ls hl => ?_)
        refine lv_goto (tgt := 43) hx hb dX7_slipsOf_75 (by decide) ?_
        exact ih _ _ _ _ _ _ _ hf hP hS (lv_sub hl [1, 2, 3, 0] rfl) kk
      · have hf := g_ift hf c10
        refine lv_aload_n hx hb dX7_slipsOf_59 rfl (lv_at hl 0 rfl) ?_
        refine lv_aload_n hx hb dX7_slipsOf_60 rfl (lv_at hl 1 rfl) ?_
        refine lv_iconst (v := 1) hx hb dX7_slipsOf_61 (by decide) ?_
        refine lv_iload_n hx hb dX7_slipsOf_62 rfl (lv_at hl 2 rfl) ?_
        refine lv_iconst (v := 3) hx hb dX7_slipsOf_63 (by decide) ?_
        refine lv_iload_n hx hb dX7_slipsOf_64 rfl (lv_at hl 3 rfl) ?_
        refine lv_imul hx hb dX7_slipsOf_65 ?_
        refine lv_isub hx hb dX7_slipsOf_66 ?_
        obtain ⟨u11, h12, hf⟩ := g_bind hf
        refine g_vv (rest := []) X E hP hS (tcX7_consider_now l G _ _ _ h12) (g_cwV X gX7_slipsOf_X7_consider rfl hdX7_consider ⟨Nat.le_of_ble_eq_true rfl, Nat.le_of_ble_eq_true rfl⟩) (rcX_slips E hP) rfl hl.1 rfl (Nat.le_of_ble_eq_true rfl) dX7_slipsOf_67 ⟨Nat.le_refl _, Nat.le_refl _⟩ (fun H locs hP hS => ?_)
        refine lv_iload_n hx hb dX7_slipsOf_70 rfl (lv_at hl 3 rfl) ?_
        refine lv_bipush (v := 10) hx hb dX7_slipsOf_71 (by decide) ?_
        refine lv_idiv hx hb dX7_slipsOf_73 (by decide) ?_
        refine lv_istore_n (lv' := [(3, .int (v3 / (10 : Int32))), (0, .ref (ga G 111)), (1, .ref (ga G 15)), (2, .int v2)]) hx hb dX7_slipsOf_74 rfl hl (by decide) rfl (fun ls hl => ?_)
        refine lv_goto (tgt := 43) hx hb dX7_slipsOf_75 (by decide) ?_
        exact ih _ _ _ _ _ _ _ hf hP hS (lv_sub hl [1, 2, 3, 0] rfl) kk
def fX7_slipsOf_now_81 : Nat → GS → Int32 → Int32 → Option GS
  | 0, _, _, _ => none
  | fu + 1, S, v2, v3 =>
    if v3 < (1 : Int32) then
      some S
    else
      if v3 = 0 then none else
      if v3 = 0 then none else
      if (((v2 / v3) / (10 : Int32)) - ((v2 / v3) / (10 : Int32)) / (10 : Int32) * (10 : Int32)) = ((v2 / v3) - (v2 / v3) / (10 : Int32) * (10 : Int32)) then
        fX7_slipsOf_now_81 fu S v2 (v3 / (10 : Int32))
      else
        (fX7_consider_now S (2 : Int32) (v2 + (((((v2 / v3) - (v2 / v3) / (10 : Int32) * (10 : Int32)) - (((v2 / v3) / (10 : Int32)) - ((v2 / v3) / (10 : Int32)) / (10 : Int32) * (10 : Int32))) * (9 : Int32)) * v3))).bind fun u19 =>
        fX7_slipsOf_now_81 fu u19 v2 (v3 / (10 : Int32))
set_option maxHeartbeats 4000000 in
set_option maxRecDepth 100000 in
theorem bX7_slipsOf_now_81 {p : Program} {l : Launch} {e : Env} {s : State} {m : MethodId} {args : Array Value} {below : List Frame} {meth : Method} {c : Code} {Q : State → Prop} {G : GP} (X : GX p s m meth c args cX7_slipsOf 6 none wsX7_slipsOf RX7) (E : gE WX G s)  : ∀ (fu : Nat) (S : GS) (v2 : Int32) (v3 : Int32) (R : GS) (H : Heap) (locs : List Loc) (ls : Array Slot) (_ : fX7_slipsOf_now_81 fu S v2 v3 = some R) (_ : va_P (gD G) vwCl (WX G S ++ gF G) H) (_ : va_S (gA G) s.heap H locs) (_ : lv_has ls 6 [(0, .ref (ga G 111)), (1, .ref (ga G 15)), (2, .int v2), (3, .int v3)]) (_ : ∀ (H : Heap) (locs : List Loc) (ls : Array Slot), va_P (gD G) vwCl (WX G R ++ gF G) H → va_S (gA G) s.heap H locs → lv_has ls 6 [(0, .ref (ga G 111)), (1, .ref (ga G 15)), (2, .int v2)] → W p l e (gR 4 90) s m args below meth c H locs 0 0 Q (F0 m 138 ls [])), W p l e (gR 4 90) s m args below meth c H locs 0 0 Q (F0 m 81 ls []) := by
  obtain ⟨hx, hb, -, -, hown, hts, -⟩ := id X
  intro fu
  induction fu with
  | zero =>
    intro S v2 v3 R H locs ls hf
    cases (show (none : Option GS) = some R from hf)
  | succ fu ih =>
    intro S v2 v3 R H locs ls hf hP hS hl kk
    rw [fX7_slipsOf_now_81] at hf
    refine lv_iload_n hx hb dX7_slipsOf_81 rfl (lv_at hl 3 rfl) ?_
    refine lv_iconst (v := 1) hx hb dX7_slipsOf_82 (by decide) ?_
    refine lv_icmp_lt (tgt := 138) hx hb dX7_slipsOf_83 (by decide) (fun c15 => ?_) (fun c15 => ?_)
    · have hf := g_ift hf c15
      obtain rfl := g_some hf
      exact kk _ _ _ hP hS (lv_sub hl [0, 1, 2] rfl)
    · have hf := g_iff hf c15
      refine lv_iload_n hx hb dX7_slipsOf_86 rfl (lv_at hl 2 rfl) ?_
      refine lv_iload_n hx hb dX7_slipsOf_87 rfl (lv_at hl 3 rfl) ?_
      obtain ⟨z16, hf⟩ := g_if hf
      refine lv_idiv hx hb dX7_slipsOf_88 z16 ?_
      refine lv_bipush (v := 10) hx hb dX7_slipsOf_89 (by decide) ?_
      refine lv_idiv hx hb dX7_slipsOf_91 (by decide) ?_
      refine lv_bipush (v := 10) hx hb dX7_slipsOf_92 (by decide) ?_
      refine lv_irem hx hb dX7_slipsOf_94 (by decide) ?_
      refine lv_istore (lv' := [(4, .int (((v2 / v3) / (10 : Int32)) - ((v2 / v3) / (10 : Int32)) / (10 : Int32) * (10 : Int32))), (0, .ref (ga G 111)), (1, .ref (ga G 15)), (2, .int v2), (3, .int v3)]) hx hb dX7_slipsOf_95 hl (by decide) rfl (fun ls hl => ?_)
      refine lv_iload_n hx hb dX7_slipsOf_97 rfl (lv_at hl 3 rfl) ?_
      refine lv_iload_n hx hb dX7_slipsOf_98 rfl (lv_at hl 4 rfl) ?_
      obtain ⟨z17, hf⟩ := g_if hf
      refine lv_idiv hx hb dX7_slipsOf_99 z17 ?_
      refine lv_bipush (v := 10) hx hb dX7_slipsOf_100 (by decide) ?_
      refine lv_irem hx hb dX7_slipsOf_102 (by decide) ?_
      refine lv_istore (lv' := [(5, .int ((v2 / v3) - (v2 / v3) / (10 : Int32) * (10 : Int32))), (4, .int (((v2 / v3) / (10 : Int32)) - ((v2 / v3) / (10 : Int32)) / (10 : Int32) * (10 : Int32))), (0, .ref (ga G 111)), (1, .ref (ga G 15)), (2, .int v2), (3, .int v3)]) hx hb dX7_slipsOf_103 hl (by decide) rfl (fun ls hl => ?_)
      refine lv_iload hx hb dX7_slipsOf_105 (lv_at hl 1 rfl) ?_
      refine lv_iload hx hb dX7_slipsOf_107 (lv_at hl 0 rfl) ?_
      refine lv_icmp_eq (tgt := 130) hx hb dX7_slipsOf_109 (by decide) (fun c18 => ?_) (fun c18 => ?_)
      · have hf := g_ift hf c18
        refine lv_iload_n hx hb dX7_slipsOf_130 rfl (lv_at hl 5 rfl) ?_
        refine lv_bipush (v := 10) hx hb dX7_slipsOf_131 (by decide) ?_
        refine lv_idiv hx hb dX7_slipsOf_133 (by decide) ?_
        refine lv_istore_n (lv' := [(3, .int (v3 / (10 : Int32))), (5, .int ((v2 / v3) - (v2 / v3) / (10 : Int32) * (10 : Int32))), (4, .int (((v2 / v3) / (10 : Int32)) - ((v2 / v3) / (10 : Int32)) / (10 : Int32) * (10 : Int32))), (0, .ref (ga G 111)), (1, .ref (ga G 15)), (2, .int v2)]) hx hb dX7_slipsOf_134 rfl hl (by decide) rfl (fun ls hl => ?_)
        refine lv_goto (tgt := 81) hx hb dX7_slipsOf_135 (by decide) ?_
        exact ih _ _ _ _ _ _ _ hf hP hS (lv_sub hl [3, 4, 5, 0] rfl) kk
      · have hf := g_iff hf c18
        refine lv_aload_n hx hb dX7_slipsOf_112 rfl (lv_at hl 2 rfl) ?_
        refine lv_aload_n hx hb dX7_slipsOf_113 rfl (lv_at hl 3 rfl) ?_
        refine lv_iconst (v := 2) hx hb dX7_slipsOf_114 (by decide) ?_
        refine lv_iload_n hx hb dX7_slipsOf_115 rfl (lv_at hl 4 rfl) ?_
        refine lv_iload hx hb dX7_slipsOf_116 (lv_at hl 0 rfl) ?_
        refine lv_iload hx hb dX7_slipsOf_118 (lv_at hl 1 rfl) ?_
        refine lv_isub hx hb dX7_slipsOf_120 ?_
        refine lv_bipush (v := 9) hx hb dX7_slipsOf_121 (by decide) ?_
        refine lv_imul hx hb dX7_slipsOf_123 ?_
        refine lv_iload_n hx hb dX7_slipsOf_124 rfl (lv_at hl 5 rfl) ?_
        refine lv_imul hx hb dX7_slipsOf_125 ?_
        refine lv_iadd hx hb dX7_slipsOf_126 ?_
        obtain ⟨u19, h20, hf⟩ := g_bind hf
        refine g_vv (rest := []) X E hP hS (tcX7_consider_now l G _ _ _ h20) (g_cwV X gX7_slipsOf_X7_consider rfl hdX7_consider ⟨Nat.le_of_ble_eq_true rfl, Nat.le_of_ble_eq_true rfl⟩) (rcX_slips E hP) rfl hl.1 rfl (Nat.le_of_ble_eq_true rfl) dX7_slipsOf_127 ⟨Nat.le_refl _, Nat.le_refl _⟩ (fun H locs hP hS => ?_)
        refine lv_iload_n hx hb dX7_slipsOf_130 rfl (lv_at hl 5 rfl) ?_
        refine lv_bipush (v := 10) hx hb dX7_slipsOf_131 (by decide) ?_
        refine lv_idiv hx hb dX7_slipsOf_133 (by decide) ?_
        refine lv_istore_n (lv' := [(3, .int (v3 / (10 : Int32))), (5, .int ((v2 / v3) - (v2 / v3) / (10 : Int32) * (10 : Int32))), (4, .int (((v2 / v3) / (10 : Int32)) - ((v2 / v3) / (10 : Int32)) / (10 : Int32) * (10 : Int32))), (0, .ref (ga G 111)), (1, .ref (ga G 15)), (2, .int v2)]) hx hb dX7_slipsOf_134 rfl hl (by decide) rfl (fun ls hl => ?_)
        refine lv_goto (tgt := 81) hx hb dX7_slipsOf_135 (by decide) ?_
        exact ih _ _ _ _ _ _ _ hf hP hS (lv_sub hl [3, 4, 5, 0] rfl) kk
def fX7_slipsOf_now (S : GS) (a1 : Int32) : Option GS :=
  (fX7_slipsOf_now_4 gFuel S a1 (1000 : Int32)).bind fun u6 =>
  (fX7_slipsOf_now_43 gFuel u6 a1 (1000 : Int32)).bind fun u13 =>
  (fX7_slipsOf_now_81 gFuel u13 a1 (100 : Int32)).bind fun u21 =>
  (fX7_consider_now u21 (3 : Int32) (a1 - (100 : Int32))).bind fun u23 =>
  (fX7_consider_now u23 (4 : Int32) (a1 + (100 : Int32))).bind fun u25 =>
  some u25
set_option maxHeartbeats 4000000 in
set_option maxRecDepth 100000 in
theorem tcX7_slipsOf_now (l : Launch) (G : GP) (S : GS) (a1 : Int32) {R : GS} (hf : fX7_slipsOf_now S a1 = some R) : CV l yX7_slipsOf wsX7_slipsOf 4 90 [.ref (ga G 111), .ref (ga G 15), .int a1] WX G S R := by
  refine g_met RX7 (cc := cX7_slipsOf) (nL := 6) (ret := none) (by decide) rfl rfl (Nat.le_of_ble_eq_true rfl) ?_
  intro p e s m below meth c ls X E hP hS hl
  have hl : lv_has ls 6 [(0, .ref (ga G 111)), (1, .ref (ga G 15)), (2, .int a1)] := hl
  obtain ⟨hx, hb, -, -, hown, hts, -⟩ := id X
  rw [fX7_slipsOf_now] at hf
  refine lv_sipush (v := 1000) hx hb dX7_slipsOf_0 (by decide) ?_
  refine lv_istore_n (lv' := [(3, .int (1000 : Int32)), (0, .ref (ga G 111)), (1, .ref (ga G 15)), (2, .int a1)]) hx hb dX7_slipsOf_3 rfl hl (by decide) rfl (fun ls hl => ?_)
  obtain ⟨u6, h7, hf⟩ := g_bind hf
  refine bX7_slipsOf_now_4 X E gFuel _ _ _ u6 _ _ _ h7 hP hS (lv_sub hl [1, 2, 3, 0] rfl) (fun H locs ls hP hS hl => ?_)
  have hl : lv_has ls 6 [(0, .ref (ga G 111)), (1, .ref (ga G 15)), (2, .int a1)] := hl
  have hP : va_P (gD G) vwCl (WX G u6 ++ gF G) H := hP
  refine lv_sipush (v := 1000) hx hb dX7_slipsOf_39 (by decide) ?_
  refine lv_istore_n (lv' := [(3, .int (1000 : Int32)), (0, .ref (ga G 111)), (1, .ref (ga G 15)), (2, .int a1)]) hx hb dX7_slipsOf_42 rfl hl (by decide) rfl (fun ls hl => ?_)
  obtain ⟨u13, h14, hf⟩ := g_bind hf
  refine bX7_slipsOf_now_43 X E gFuel _ _ _ u13 _ _ _ h14 hP hS (lv_sub hl [1, 2, 3, 0] rfl) (fun H locs ls hP hS hl => ?_)
  have hl : lv_has ls 6 [(0, .ref (ga G 111)), (1, .ref (ga G 15)), (2, .int a1)] := hl
  have hP : va_P (gD G) vwCl (WX G u13 ++ gF G) H := hP
  refine lv_bipush (v := 100) hx hb dX7_slipsOf_78 (by decide) ?_
  refine lv_istore_n (lv' := [(3, .int (100 : Int32)), (0, .ref (ga G 111)), (1, .ref (ga G 15)), (2, .int a1)]) hx hb dX7_slipsOf_80 rfl hl (by decide) rfl (fun ls hl => ?_)
  obtain ⟨u21, h22, hf⟩ := g_bind hf
  refine bX7_slipsOf_now_81 X E gFuel _ _ _ u21 _ _ _ h22 hP hS (lv_sub hl [1, 2, 3, 0] rfl) (fun H locs ls hP hS hl => ?_)
  have hl : lv_has ls 6 [(0, .ref (ga G 111)), (1, .ref (ga G 15)), (2, .int a1)] := hl
  have hP : va_P (gD G) vwCl (WX G u21 ++ gF G) H := hP
  refine lv_aload_n hx hb dX7_slipsOf_138 rfl (lv_at hl 0 rfl) ?_
  refine lv_aload_n hx hb dX7_slipsOf_139 rfl (lv_at hl 1 rfl) ?_
  refine lv_iconst (v := 3) hx hb dX7_slipsOf_140 (by decide) ?_
  refine lv_iload_n hx hb dX7_slipsOf_141 rfl (lv_at hl 2 rfl) ?_
  refine lv_bipush (v := 100) hx hb dX7_slipsOf_142 (by decide) ?_
  refine lv_isub hx hb dX7_slipsOf_144 ?_
  obtain ⟨u23, h24, hf⟩ := g_bind hf
  refine g_vv (rest := []) X E hP hS (tcX7_consider_now l G _ _ _ h24) (g_cwV X gX7_slipsOf_X7_consider rfl hdX7_consider ⟨Nat.le_of_ble_eq_true rfl, Nat.le_of_ble_eq_true rfl⟩) (rcX_slips E hP) rfl hl.1 rfl (Nat.le_of_ble_eq_true rfl) dX7_slipsOf_145 ⟨Nat.le_refl _, Nat.le_refl _⟩ (fun H locs hP hS => ?_)
  refine lv_aload_n hx hb dX7_slipsOf_148 rfl (lv_at hl 0 rfl) ?_
  refine lv_aload_n hx hb dX7_slipsOf_149 rfl (lv_at hl 1 rfl) ?_
  refine lv_iconst (v := 4) hx hb dX7_slipsOf_150 (by decide) ?_
  refine lv_iload_n hx hb dX7_slipsOf_151 rfl (lv_at hl 2 rfl) ?_
  refine lv_bipush (v := 100) hx hb dX7_slipsOf_152 (by decide) ?_
  refine lv_iadd hx hb dX7_slipsOf_154 ?_
  obtain ⟨u25, h26, hf⟩ := g_bind hf
  refine g_vv (rest := []) X E hP hS (tcX7_consider_now l G _ _ _ h26) (g_cwV X gX7_slipsOf_X7_consider rfl hdX7_consider ⟨Nat.le_of_ble_eq_true rfl, Nat.le_of_ble_eq_true rfl⟩) (rcX_slips E hP) rfl hl.1 rfl (Nat.le_of_ble_eq_true rfl) dX7_slipsOf_155 ⟨Nat.le_refl _, Nat.le_refl _⟩ (fun H locs hP hS => ?_)
  obtain rfl := g_some hf
  exact g_rv X E hP hS dX7_slipsOf_158
theorem lkX7_search_0 : Cond.fieldLink RX7 7 RX7 "foundInAll" "I" ∈ wsX7_search := by decide +kernel
theorem lkX7_search_1 : Cond.fieldLink RX7 35 RX7 "setUp" "I" ∈ wsX7_search := by decide +kernel
theorem lkX7_search_2 : Cond.fieldLink RX7 42 RX7 "behind" "I" ∈ wsX7_search := by decide +kernel
theorem lkX7_search_3 : Cond.fieldLink RX7 45 RX7 "ahead" "I" ∈ wsX7_search := by decide +kernel
theorem lkX7_search_4 : Cond.fieldLink RX7 51 RX7 "othersOff" "I" ∈ wsX7_search := by decide +kernel
theorem lkX7_search_5 : Cond.fieldLink RX7 54 RX7 "reading" "I" ∈ wsX7_search := by decide +kernel
theorem inX7_search_X7 : ∀ w ∈ wsX70, w ∈ wsX7_search := by decide +kernel
def fX7_search_now_16 : Nat → GS → Int32 → Int32 → Option GS
  | 0, _, _, _ => none
  | fu + 1, S, v2, v3 =>
    (fX3_count_now S).bind fun u5 =>
    if u5 ≤ v3 then
      some S
    else
      (fX3_get_now (gU1 S 101 v3) v3 (2 : Int32)).bind fun u8 =>
      (fX3_get_now (gU1 (gU1 S 101 v3) 102 u8) v3 (3 : Int32)).bind fun u10 =>
      (fX3_riseOf_now (gU1 (gU1 (gU1 S 101 v3) 102 u8) 103 u10) v3).bind fun u12 =>
      (fX7_slipsOf_now (gU1 (gU1 (gU1 (gU1 (gU1 S 101 v3) 102 u8) 103 u10) 104 (v2 - u12)) 105 (0 : Int32)) ((gU1 (gU1 (gU1 (gU1 (gU1 S 101 v3) 102 u8) 103 u10) 104 (v2 - u12)) 105 (0 : Int32)).1 102)).bind fun u14 =>
      (fX7_consider_now u14 (5 : Int32) (u14.1 103)).bind fun u16 =>
      (fX7_slipsOf_now (gU1 u16 105 (1 : Int32)) ((gU1 u16 105 (1 : Int32)).1 103)).bind fun u18 =>
      fX7_search_now_16 fu u18 v2 (v3 + 1)
set_option maxHeartbeats 4000000 in
set_option maxRecDepth 100000 in
theorem bX7_search_now_16 {p : Program} {l : Launch} {e : Env} {s : State} {m : MethodId} {args : Array Value} {below : List Frame} {meth : Method} {c : Code} {Q : State → Prop} {G : GP} (X : GX p s m meth c args cX7_search 4 none wsX7_search RX7) (E : gE WX G s)  : ∀ (fu : Nat) (S : GS) (v2 : Int32) (v3 : Int32) (R : GS) (H : Heap) (locs : List Loc) (ls : Array Slot) (_ : fX7_search_now_16 fu S v2 v3 = some R) (_ : va_P (gD G) vwCl (WX G S ++ gF G) H) (_ : va_S (gA G) s.heap H locs) (_ : lv_has ls 4 [(0, .ref (ga G 111)), (1, .ref (ga G 15)), (2, .int v2), (3, .int v3)]) (_ : ∀ (H : Heap) (locs : List Loc) (ls : Array Slot), va_P (gD G) vwCl (WX G R ++ gF G) H → va_S (gA G) s.heap H locs → lv_has ls 4 [] → W p l e (gR 5 115) s m args below meth c H locs 0 0 Q (F0 m 104 ls [])), W p l e (gR 5 115) s m args below meth c H locs 0 0 Q (F0 m 16 ls []) := by
  obtain ⟨hx, hb, -, -, hown, hts, -⟩ := id X
  intro fu
  induction fu with
  | zero =>
    intro S v2 v3 R H locs ls hf
    cases (show (none : Option GS) = some R from hf)
  | succ fu ih =>
    intro S v2 v3 R H locs ls hf hP hS hl kk
    rw [fX7_search_now_16] at hf
    refine lv_iload_n hx hb dX7_search_16 rfl (lv_at hl 3 rfl) ?_
    refine lv_aload_n hx hb dX7_search_17 rfl (lv_at hl 1 rfl) ?_
    obtain ⟨u5, h6, hf⟩ := g_bind hf
    refine g_vi (rest := [.int v3]) X E hP hS (tcX3_count_now l G _  h6) (g_cwV X gX7_search_X3_count rfl hdX3_count ⟨Nat.le_of_ble_eq_true rfl, Nat.le_of_ble_eq_true rfl⟩) (rcX_now E hP) rfl hl.1 rfl (Nat.le_of_ble_eq_true rfl) dX7_search_18 ⟨Nat.le_refl _, Nat.le_refl _⟩ (fun H locs hP hS => ?_)
    refine lv_icmp_ge (tgt := 104) hx hb dX7_search_21 (by decide) (fun c7 => ?_) (fun c7 => ?_)
    · have hf := g_ift hf c7
      obtain rfl := g_some hf
      exact kk _ _ _ hP hS (lv_sub hl [] rfl)
    · have hf := g_iff hf c7
      refine lv_aload_n hx hb dX7_search_24 rfl (lv_at hl 0 rfl) ?_
      refine lv_iload_n hx hb dX7_search_25 rfl (lv_at hl 3 rfl) ?_
      refine gpX_101 X E hP hS inX7_search_X7 lkX7_search_1 dX7_search_26 (fun H locs hP hS => ?_)
      refine lv_aload_n hx hb dX7_search_29 rfl (lv_at hl 0 rfl) ?_
      refine lv_aload_n hx hb dX7_search_30 rfl (lv_at hl 1 rfl) ?_
      refine lv_iload_n hx hb dX7_search_31 rfl (lv_at hl 3 rfl) ?_
      refine lv_iconst (v := 2) hx hb dX7_search_32 (by decide) ?_
      obtain ⟨u8, h9, hf⟩ := g_bind hf
      refine g_vi (rest := [.ref (ga G 111)]) X E hP hS (tcX3_get_now l G _ _ _ h9) (g_cwV X gX7_search_X3_get rfl hdX3_get ⟨Nat.le_of_ble_eq_true rfl, Nat.le_of_ble_eq_true rfl⟩) (rcX_now E hP) rfl hl.1 rfl (Nat.le_of_ble_eq_true rfl) dX7_search_33 ⟨Nat.le_refl _, Nat.le_refl _⟩ (fun H locs hP hS => ?_)
      refine gpX_102 X E hP hS inX7_search_X7 lkX7_search_2 dX7_search_36 (fun H locs hP hS => ?_)
      refine lv_aload_n hx hb dX7_search_39 rfl (lv_at hl 0 rfl) ?_
      refine lv_aload_n hx hb dX7_search_40 rfl (lv_at hl 1 rfl) ?_
      refine lv_iload_n hx hb dX7_search_41 rfl (lv_at hl 3 rfl) ?_
      refine lv_iconst (v := 3) hx hb dX7_search_42 (by decide) ?_
      obtain ⟨u10, h11, hf⟩ := g_bind hf
      refine g_vi (rest := [.ref (ga G 111)]) X E hP hS (tcX3_get_now l G _ _ _ h11) (g_cwV X gX7_search_X3_get rfl hdX3_get ⟨Nat.le_of_ble_eq_true rfl, Nat.le_of_ble_eq_true rfl⟩) (rcX_now E hP) rfl hl.1 rfl (Nat.le_of_ble_eq_true rfl) dX7_search_43 ⟨Nat.le_refl _, Nat.le_refl _⟩ (fun H locs hP hS => ?_)
      refine gpX_103 X E hP hS inX7_search_X7 lkX7_search_3 dX7_search_46 (fun H locs hP hS => ?_)
      refine lv_aload_n hx hb dX7_search_49 rfl (lv_at hl 0 rfl) ?_
      refine lv_iload_n hx hb dX7_search_50 rfl (lv_at hl 2 rfl) ?_
      refine lv_aload_n hx hb dX7_search_51 rfl (lv_at hl 1 rfl) ?_
      refine lv_iload_n hx hb dX7_search_52 rfl (lv_at hl 3 rfl) ?_
      obtain ⟨u12, h13, hf⟩ := g_bind hf
      refine g_vi (rest := [.int v2, .ref (ga G 111)]) X E hP hS (tcX3_riseOf_now l G _ _ h13) (g_cwV X gX7_search_X3_riseOf rfl hdX3_riseOf ⟨Nat.le_of_ble_eq_true rfl, Nat.le_of_ble_eq_true rfl⟩) (rcX_now E hP) rfl hl.1 rfl (Nat.le_of_ble_eq_true rfl) dX7_search_53 ⟨Nat.le_refl _, Nat.le_refl _⟩ (fun H locs hP hS => ?_)
      refine lv_isub hx hb dX7_search_56 ?_
      refine gpX_104 X E hP hS inX7_search_X7 lkX7_search_4 dX7_search_57 (fun H locs hP hS => ?_)
      refine lv_aload_n hx hb dX7_search_60 rfl (lv_at hl 0 rfl) ?_
      refine lv_iconst (v := 0) hx hb dX7_search_61 (by decide) ?_
      refine gpX_105 X E hP hS inX7_search_X7 lkX7_search_5 dX7_search_62 (fun H locs hP hS => ?_)
      refine lv_aload_n hx hb dX7_search_65 rfl (lv_at hl 0 rfl) ?_
      refine lv_aload_n hx hb dX7_search_66 rfl (lv_at hl 1 rfl) ?_
      refine lv_aload_n hx hb dX7_search_67 rfl (lv_at hl 0 rfl) ?_
      refine ggX_102 X E hP inX7_search_X7 lkX7_search_2 dX7_search_68 ?_
      obtain ⟨u14, h15, hf⟩ := g_bind hf
      refine g_vv (rest := []) X E hP hS (tcX7_slipsOf_now l G _ _ h15) (g_cwV X gX7_search_X7_slipsOf rfl hdX7_slipsOf ⟨Nat.le_of_ble_eq_true rfl, Nat.le_of_ble_eq_true rfl⟩) (rcX_slips E hP) rfl hl.1 rfl (Nat.le_of_ble_eq_true rfl) dX7_search_71 ⟨Nat.le_refl _, Nat.le_refl _⟩ (fun H locs hP hS => ?_)
      refine lv_aload_n hx hb dX7_search_74 rfl (lv_at hl 0 rfl) ?_
      refine lv_aload_n hx hb dX7_search_75 rfl (lv_at hl 1 rfl) ?_
      refine lv_iconst (v := 5) hx hb dX7_search_76 (by decide) ?_
      refine lv_aload_n hx hb dX7_search_77 rfl (lv_at hl 0 rfl) ?_
      refine ggX_103 X E hP inX7_search_X7 lkX7_search_3 dX7_search_78 ?_
      obtain ⟨u16, h17, hf⟩ := g_bind hf
      refine g_vv (rest := []) X E hP hS (tcX7_consider_now l G _ _ _ h17) (g_cwV X gX7_search_X7_consider rfl hdX7_consider ⟨Nat.le_of_ble_eq_true rfl, Nat.le_of_ble_eq_true rfl⟩) (rcX_slips E hP) rfl hl.1 rfl (Nat.le_of_ble_eq_true rfl) dX7_search_81 ⟨Nat.le_refl _, Nat.le_refl _⟩ (fun H locs hP hS => ?_)
      refine lv_aload_n hx hb dX7_search_84 rfl (lv_at hl 0 rfl) ?_
      refine lv_iconst (v := 1) hx hb dX7_search_85 (by decide) ?_
      refine gpX_105 X E hP hS inX7_search_X7 lkX7_search_5 dX7_search_86 (fun H locs hP hS => ?_)
      refine lv_aload_n hx hb dX7_search_89 rfl (lv_at hl 0 rfl) ?_
      refine lv_aload_n hx hb dX7_search_90 rfl (lv_at hl 1 rfl) ?_
      refine lv_aload_n hx hb dX7_search_91 rfl (lv_at hl 0 rfl) ?_
      refine ggX_103 X E hP inX7_search_X7 lkX7_search_3 dX7_search_92 ?_
      obtain ⟨u18, h19, hf⟩ := g_bind hf
      refine g_vv (rest := []) X E hP hS (tcX7_slipsOf_now l G _ _ h19) (g_cwV X gX7_search_X7_slipsOf rfl hdX7_slipsOf ⟨Nat.le_of_ble_eq_true rfl, Nat.le_of_ble_eq_true rfl⟩) (rcX_slips E hP) rfl hl.1 rfl (Nat.le_of_ble_eq_true rfl) dX7_search_95 ⟨Nat.le_refl _, Nat.le_refl _⟩ (fun H locs hP hS => ?_)
      refine lv_iinc (v := (v3 + 1)) (lv' := [(3, .int (v3 + 1)), (0, .ref (ga G 111)), (1, .ref (ga G 15)), (2, .int v2)]) hx hb dX7_search_98 hl (k := 3) rfl rfl (by decide) rfl (fun ls hl => ?_)
      refine lv_goto (tgt := 16) hx hb dX7_search_101 (by decide) ?_
      exact ih _ _ _ _ _ _ _ hf hP hS (lv_sub hl [1, 2, 3, 0] rfl) kk
def fX7_search_now (S : GS)  : Option GS :=
  (fX3_count_now (gU1 S 96 (0 : Int32))).bind fun u1 =>
  (fX3_risesAheadOf_now (gU1 S 96 (0 : Int32)) u1).bind fun u3 =>
  (fX7_search_now_16 gFuel (gU1 S 96 (0 : Int32)) u3 (0 : Int32)).bind fun u20 =>
  some u20
set_option maxHeartbeats 4000000 in
set_option maxRecDepth 100000 in
theorem tcX7_search_now (l : Launch) (G : GP) (S : GS)  {R : GS} (hf : fX7_search_now S  = some R) : CV l yX7_search wsX7_search 5 115 [.ref (ga G 111), .ref (ga G 15)] WX G S R := by
  refine g_met RX7 (cc := cX7_search) (nL := 4) (ret := none) (by decide) rfl rfl (Nat.le_of_ble_eq_true rfl) ?_
  intro p e s m below meth c ls X E hP hS hl
  have hl : lv_has ls 4 [(0, .ref (ga G 111)), (1, .ref (ga G 15))] := hl
  obtain ⟨hx, hb, -, -, hown, hts, -⟩ := id X
  rw [fX7_search_now] at hf
  refine lv_aload_n hx hb dX7_search_0 rfl (lv_at hl 0 rfl) ?_
  refine lv_iconst (v := 0) hx hb dX7_search_1 (by decide) ?_
  refine gpX_96 X E hP hS inX7_search_X7 lkX7_search_0 dX7_search_2 (fun H locs hP hS => ?_)
  refine lv_aload_n hx hb dX7_search_5 rfl (lv_at hl 1 rfl) ?_
  refine lv_aload_n hx hb dX7_search_6 rfl (lv_at hl 1 rfl) ?_
  obtain ⟨u1, h2, hf⟩ := g_bind hf
  refine g_vi (rest := [.ref (ga G 15)]) X E hP hS (tcX3_count_now l G _  h2) (g_cwV X gX7_search_X3_count rfl hdX3_count ⟨Nat.le_of_ble_eq_true rfl, Nat.le_of_ble_eq_true rfl⟩) (rcX_now E hP) rfl hl.1 rfl (Nat.le_of_ble_eq_true rfl) dX7_search_7 ⟨Nat.le_refl _, Nat.le_refl _⟩ (fun H locs hP hS => ?_)
  obtain ⟨u3, h4, hf⟩ := g_bind hf
  refine g_vi (rest := []) X E hP hS (tcX3_risesAheadOf_now l G _ _ h4) (g_cwV X gX7_search_X3_risesAheadOf rfl hdX3_risesAheadOf ⟨Nat.le_of_ble_eq_true rfl, Nat.le_of_ble_eq_true rfl⟩) (rcX_now E hP) rfl hl.1 rfl (Nat.le_of_ble_eq_true rfl) dX7_search_10 ⟨Nat.le_refl _, Nat.le_refl _⟩ (fun H locs hP hS => ?_)
  refine lv_istore_n (lv' := [(2, .int u3), (0, .ref (ga G 111)), (1, .ref (ga G 15))]) hx hb dX7_search_13 rfl hl (by decide) rfl (fun ls hl => ?_)
  refine lv_iconst (v := 0) hx hb dX7_search_14 (by decide) ?_
  refine lv_istore_n (lv' := [(3, .int (0 : Int32)), (2, .int u3), (0, .ref (ga G 111)), (1, .ref (ga G 15))]) hx hb dX7_search_15 rfl hl (by decide) rfl (fun ls hl => ?_)
  obtain ⟨u20, h21, hf⟩ := g_bind hf
  refine bX7_search_now_16 X E gFuel _ _ _ u20 _ _ _ h21 hP hS (lv_sub hl [2, 3, 1, 0] rfl) (fun H locs ls hP hS hl => ?_)
  have hl : lv_has ls 4 [] := hl
  have hP : va_P (gD G) vwCl (WX G u20 ++ gF G) H := hP
  obtain rfl := g_some hf
  exact g_rv X E hP hS dX7_search_104
theorem lkX7_found_0 : Cond.fieldLink RX7 7 RX7 "foundInAll" "I" ∈ wsX7_found := by decide +kernel
theorem inX7_found_X7 : ∀ w ∈ wsX70, w ∈ wsX7_found := by decide +kernel
def fX7_found (S : GS)  : Option Int32 :=
  some (S.1 96)
set_option maxHeartbeats 4000000 in
set_option maxRecDepth 100000 in
theorem tcX7_found (l : Launch) (G : GP) (S : GS)  {R : Int32} (hf : fX7_found S  = some R) : CI l yX7_found wsX7_found 0 0 [.ref (ga G 111)] WX G S R S := by
  refine g_met RX7 (cc := cX7_found) (nL := 1) (ret := (some .int)) (by decide) rfl rfl (Nat.le_of_ble_eq_true rfl) ?_
  intro p e s m below meth c ls X E hP hS hl
  have hl : lv_has ls 1 [(0, .ref (ga G 111))] := hl
  obtain ⟨hx, hb, -, -, hown, hts, -⟩ := id X
  rw [fX7_found] at hf
  refine lv_aload_n hx hb dX7_found_0 rfl (lv_at hl 0 rfl) ?_
  refine ggX_96 X E hP inX7_found_X7 lkX7_found_0 dX7_found_1 ?_
  obtain rfl := g_some hf
  exact g_ri X E hP hS dX7_found_4
theorem lkX7_firstOf_0 : Cond.fieldLink RX7 13 RX7 "firstSetUp" "I" ∈ wsX7_firstOf := by decide +kernel
theorem lkX7_firstOf_1 : Cond.fieldLink RX7 16 RX7 "firstReading" "I" ∈ wsX7_firstOf := by decide +kernel
theorem lkX7_firstOf_2 : Cond.fieldLink RX7 19 RX7 "firstSort" "I" ∈ wsX7_firstOf := by decide +kernel
theorem lkX7_firstOf_3 : Cond.fieldLink RX7 22 RX7 "firstValue" "I" ∈ wsX7_firstOf := by decide +kernel
theorem inX7_firstOf_X7 : ∀ w ∈ wsX70, w ∈ wsX7_firstOf := by decide +kernel
def fX7_firstOf (S : GS) (a1 : Int32) : Option Int32 :=
  if a1 = (0 : Int32) then
    some (S.1 97)
  else if a1 = (1 : Int32) then
    some (S.1 98)
  else if a1 = (2 : Int32) then
    some (S.1 99)
  else some (S.1 100)
set_option maxHeartbeats 4000000 in
set_option maxRecDepth 100000 in
theorem tcX7_firstOf (l : Launch) (G : GP) (S : GS) (a1 : Int32) {R : Int32} (hf : fX7_firstOf S a1 = some R) : CI l yX7_firstOf wsX7_firstOf 0 0 [.ref (ga G 111), .int a1] WX G S R S := by
  refine g_met RX7 (cc := cX7_firstOf) (nL := 2) (ret := (some .int)) (by decide) rfl rfl (Nat.le_of_ble_eq_true rfl) ?_
  intro p e s m below meth c ls X E hP hS hl
  have hl : lv_has ls 2 [(0, .ref (ga G 111)), (1, .int a1)] := hl
  obtain ⟨hx, hb, -, -, hown, hts, -⟩ := id X
  rw [fX7_firstOf] at hf
  refine lv_iload_n hx hb dX7_firstOf_0 rfl (lv_at hl 1 rfl) ?_
  by_cases c1 : a1 = (0 : Int32)
  · have hf := g_ift hf c1
    refine g_tin (k := (0 : Int32)) (off := 27) (tgt := 28) hx hb dX7_firstOf_1 c1 (by decide) ?_
    refine lv_aload_n hx hb dX7_firstOf_28 rfl (lv_at hl 0 rfl) ?_
    refine ggX_97 X E hP inX7_firstOf_X7 lkX7_firstOf_0 dX7_firstOf_29 ?_
    obtain rfl := g_some hf
    exact g_ri X E hP hS dX7_firstOf_32
  have hf := g_iff hf c1
  by_cases c2 : a1 = (1 : Int32)
  · have hf := g_ift hf c2
    refine g_tin (k := (1 : Int32)) (off := 32) (tgt := 33) hx hb dX7_firstOf_1 c2 (by decide) ?_
    refine lv_aload_n hx hb dX7_firstOf_33 rfl (lv_at hl 0 rfl) ?_
    refine ggX_98 X E hP inX7_firstOf_X7 lkX7_firstOf_1 dX7_firstOf_34 ?_
    obtain rfl := g_some hf
    exact g_ri X E hP hS dX7_firstOf_37
  have hf := g_iff hf c2
  by_cases c3 : a1 = (2 : Int32)
  · have hf := g_ift hf c3
    refine g_tin (k := (2 : Int32)) (off := 37) (tgt := 38) hx hb dX7_firstOf_1 c3 (by decide) ?_
    refine lv_aload_n hx hb dX7_firstOf_38 rfl (lv_at hl 0 rfl) ?_
    refine ggX_99 X E hP inX7_firstOf_X7 lkX7_firstOf_2 dX7_firstOf_39 ?_
    obtain rfl := g_some hf
    exact g_ri X E hP hS dX7_firstOf_42
  have hf := g_iff hf c3
  refine lv_tableOut (tgt := 43) hx hb dX7_firstOf_1 (by have e0 := lv_neT (a := 0) c1 (by decide); have e1 := lv_neT (a := 1) c2 (by decide); have e2 := lv_neT (a := 2) c3 (by decide); omega) (by decide) ?_
  refine lv_aload_n hx hb dX7_firstOf_43 rfl (lv_at hl 0 rfl) ?_
  refine ggX_100 X E hP inX7_firstOf_X7 lkX7_firstOf_3 dX7_firstOf_44 ?_
  obtain rfl := g_some hf
  exact g_ri X E hP hS dX7_firstOf_47
theorem lkX8_big_0 : Cond.fieldLink RX8 36 RX8 "slips" "LBackToTheFirstStone$Slips;" ∈ wsX8_big := by decide +kernel
theorem lkX8_big_1 : Cond.fieldLink RX8 19 RX8 "now" "LBackToTheFirstStone$Loop;" ∈ wsX8_big := by decide +kernel
theorem inX8_big_X8 : ∀ w ∈ wsX80, w ∈ wsX8_big := by decide +kernel
def fX8_big (S : GS) (a1 : Int32) : Option (Int32 × GS) :=
  if a1 < (-1 : Int32) then
    (fX8_refuse S (-5 : Int32)).bind fun u2 =>
    some (u2.1, u2.2)
  else
    if a1 ≤ (3 : Int32) then
      (fX7_search_now S).bind fun u5 =>
      if a1 = (-1 : Int32) then
        (fX7_found u5).bind fun u15 =>
        some (u15, u5)
      else
        (fX7_found u5).bind fun u8 =>
        if u8 = 0 then
          (fX8_refuse u5 (-5 : Int32)).bind fun u13 =>
          some (u13.1, u13.2)
        else
          (fX7_firstOf u5 a1).bind fun u11 =>
          some (u11, u5)
    else
      (fX8_refuse S (-5 : Int32)).bind fun u17 =>
      some (u17.1, u17.2)
set_option maxHeartbeats 4000000 in
set_option maxRecDepth 100000 in
theorem tcX8_big (l : Launch) (G : GP) (S : GS) (a1 : Int32) {R : (Int32 × GS)} (hf : fX8_big S a1 = some R) : CI l yX8_big wsX8_big 6 138 [.ref (ga G 63), .int a1] WX G S R.1 R.2 := by
  refine g_met RX8 (cc := cX8_big) (nL := 2) (ret := (some .int)) (by decide) rfl rfl (Nat.le_of_ble_eq_true rfl) ?_
  intro p e s m below meth c ls X E hP hS hl
  have hl : lv_has ls 2 [(0, .ref (ga G 63)), (1, .int a1)] := hl
  obtain ⟨hx, hb, -, -, hown, hts, -⟩ := id X
  rw [fX8_big] at hf
  refine lv_iload_n hx hb dX8_big_0 rfl (lv_at hl 1 rfl) ?_
  refine lv_iconst (v := -1) hx hb dX8_big_1 (by decide) ?_
  refine lv_icmp_lt (tgt := 10) hx hb dX8_big_2 (by decide) (fun c1 => ?_) (fun c1 => ?_)
  · have hf := g_ift hf c1
    refine lv_aload_n hx hb dX8_big_10 rfl (lv_at hl 0 rfl) ?_
    refine lv_bipush (v := -5) hx hb dX8_big_11 (by decide) ?_
    obtain ⟨u2, h3, hf⟩ := g_bind hf
    refine g_vi (rest := []) X E hP hS (tcX8_refuse l G _ _ h3) (g_cwV X gX8_big_X8_refuse rfl hdX8_refuse ⟨Nat.le_of_ble_eq_true rfl, Nat.le_of_ble_eq_true rfl⟩) (rcX_main E hP) rfl hl.1 rfl (Nat.le_of_ble_eq_true rfl) dX8_big_13 ⟨Nat.le_refl _, Nat.le_refl _⟩ (fun H locs hP hS => ?_)
    obtain rfl := g_some hf
    exact g_ri X E hP hS dX8_big_16
  · have hf := g_iff hf c1
    refine lv_iload_n hx hb dX8_big_5 rfl (lv_at hl 1 rfl) ?_
    refine lv_iconst (v := 3) hx hb dX8_big_6 (by decide) ?_
    refine lv_icmp_le (tgt := 17) hx hb dX8_big_7 (by decide) (fun c4 => ?_) (fun c4 => ?_)
    · have hf := g_ift hf c4
      refine lv_aload_n hx hb dX8_big_17 rfl (lv_at hl 0 rfl) ?_
      refine ggX_52 X E hP inX8_big_X8 lkX8_big_0 dX8_big_18 ?_
      refine lv_aload_n hx hb dX8_big_21 rfl (lv_at hl 0 rfl) ?_
      refine ggX_49 X E hP inX8_big_X8 lkX8_big_1 dX8_big_22 ?_
      obtain ⟨u5, h6, hf⟩ := g_bind hf
      refine g_vv (rest := []) X E hP hS (tcX7_search_now l G _  h6) (g_cwV X gX8_big_X7_search rfl hdX7_search ⟨Nat.le_of_ble_eq_true rfl, Nat.le_of_ble_eq_true rfl⟩) (rcX_slips E hP) rfl hl.1 rfl (Nat.le_of_ble_eq_true rfl) dX8_big_25 ⟨Nat.le_refl _, Nat.le_refl _⟩ (fun H locs hP hS => ?_)
      refine lv_iload_n hx hb dX8_big_28 rfl (lv_at hl 1 rfl) ?_
      refine lv_iconst (v := -1) hx hb dX8_big_29 (by decide) ?_
      refine lv_icmp_ne (tgt := 41) hx hb dX8_big_30 (by decide) (fun c7 => ?_) (fun c7 => ?_)
      · have hf := g_iff hf c7
        refine lv_aload_n hx hb dX8_big_41 rfl (lv_at hl 0 rfl) ?_
        refine ggX_52 X E hP inX8_big_X8 lkX8_big_0 dX8_big_42 ?_
        obtain ⟨u8, h9, hf⟩ := g_bind hf
        refine g_vi (rest := []) X E hP hS (tcX7_found l G _  h9) (g_cwV X gX8_big_X7_found rfl hdX7_found ⟨Nat.le_of_ble_eq_true rfl, Nat.le_of_ble_eq_true rfl⟩) (rcX_slips E hP) rfl hl.1 rfl (Nat.le_of_ble_eq_true rfl) dX8_big_45 ⟨Nat.le_refl _, Nat.le_refl _⟩ (fun H locs hP hS => ?_)
        refine lv_if_ne (tgt := 58) hx hb dX8_big_48 (by decide) (fun c10 => ?_) (fun c10 => ?_)
        · have hf := g_iff hf c10
          refine lv_aload_n hx hb dX8_big_58 rfl (lv_at hl 0 rfl) ?_
          refine ggX_52 X E hP inX8_big_X8 lkX8_big_0 dX8_big_59 ?_
          refine lv_iload_n hx hb dX8_big_62 rfl (lv_at hl 1 rfl) ?_
          obtain ⟨u11, h12, hf⟩ := g_bind hf
          refine g_vi (rest := []) X E hP hS (tcX7_firstOf l G _ _ h12) (g_cwV X gX8_big_X7_firstOf rfl hdX7_firstOf ⟨Nat.le_of_ble_eq_true rfl, Nat.le_of_ble_eq_true rfl⟩) (rcX_slips E hP) rfl hl.1 rfl (Nat.le_of_ble_eq_true rfl) dX8_big_63 ⟨Nat.le_refl _, Nat.le_refl _⟩ (fun H locs hP hS => ?_)
          obtain rfl := g_some hf
          exact g_ri X E hP hS dX8_big_66
        · have hf := g_ift hf c10
          refine lv_aload_n hx hb dX8_big_51 rfl (lv_at hl 0 rfl) ?_
          refine lv_bipush (v := -5) hx hb dX8_big_52 (by decide) ?_
          obtain ⟨u13, h14, hf⟩ := g_bind hf
          refine g_vi (rest := []) X E hP hS (tcX8_refuse l G _ _ h14) (g_cwV X gX8_big_X8_refuse rfl hdX8_refuse ⟨Nat.le_of_ble_eq_true rfl, Nat.le_of_ble_eq_true rfl⟩) (rcX_main E hP) rfl hl.1 rfl (Nat.le_of_ble_eq_true rfl) dX8_big_54 ⟨Nat.le_refl _, Nat.le_refl _⟩ (fun H locs hP hS => ?_)
          obtain rfl := g_some hf
          exact g_ri X E hP hS dX8_big_57
      · have hf := g_ift hf c7
        refine lv_aload_n hx hb dX8_big_33 rfl (lv_at hl 0 rfl) ?_
        refine ggX_52 X E hP inX8_big_X8 lkX8_big_0 dX8_big_34 ?_
        obtain ⟨u15, h16, hf⟩ := g_bind hf
        refine g_vi (rest := []) X E hP hS (tcX7_found l G _  h16) (g_cwV X gX8_big_X7_found rfl hdX7_found ⟨Nat.le_of_ble_eq_true rfl, Nat.le_of_ble_eq_true rfl⟩) (rcX_slips E hP) rfl hl.1 rfl (Nat.le_of_ble_eq_true rfl) dX8_big_37 ⟨Nat.le_refl _, Nat.le_refl _⟩ (fun H locs hP hS => ?_)
        obtain rfl := g_some hf
        exact g_ri X E hP hS dX8_big_40
    · have hf := g_iff hf c4
      refine lv_aload_n hx hb dX8_big_10 rfl (lv_at hl 0 rfl) ?_
      refine lv_bipush (v := -5) hx hb dX8_big_11 (by decide) ?_
      obtain ⟨u17, h18, hf⟩ := g_bind hf
      refine g_vi (rest := []) X E hP hS (tcX8_refuse l G _ _ h18) (g_cwV X gX8_big_X8_refuse rfl hdX8_refuse ⟨Nat.le_of_ble_eq_true rfl, Nat.le_of_ble_eq_true rfl⟩) (rcX_main E hP) rfl hl.1 rfl (Nat.le_of_ble_eq_true rfl) dX8_big_13 ⟨Nat.le_refl _, Nat.le_refl _⟩ (fun H locs hP hS => ?_)
      obtain rfl := g_some hf
      exact g_ri X E hP hS dX8_big_16
theorem lkX2_search_0 : Cond.fieldLink RX2 7 RX2 "worstStone" "I" ∈ wsX2_search := by decide +kernel
theorem lkX2_search_1 : Cond.fieldLink RX2 13 RX2 "worstOff" "J" ∈ wsX2_search := by decide +kernel
theorem lkX2_search_2 : Cond.methodLink RX2 36 Lib.MathLoose.abs_long.x ∈ wsX2_search := by decide +kernel
theorem lkX2_search_3 : Cond.static Lib.MathLoose.abs_long.x ∈ wsX2_search := by decide +kernel
theorem lkX2_search_4 : Cond.initialized "java/lang/Math" ∈ wsX2_search := by decide +kernel
theorem lkX2_search_5 : Cond.code Lib.MathLoose.abs_long.x Lib.MathLoose.abs_long.code 2 (some .long) ∈ wsX2_search := by decide +kernel
theorem inX2_search_X2 : ∀ w ∈ wsX20, w ∈ wsX2_search := by decide +kernel
def fX2_search_now_shelves_21 : Nat → GS → Int32 → Int32 → Int32 → Int64 → Int64 → Int32 → Option GS
  | 0, _, _, _, _, _, _, _ => none
  | fu + 1, S, v3, v4, v5, v6, v8, v10 =>
    (fX3_count_now S).bind fun u3 =>
    if u3 < v10 then
      some S
    else
      (fX3_riseOf_now S (v10 - (1 : Int32))).bind fun u6 =>
      (fX3_count_now S).bind fun u8 =>
      if v10 = u8 then
        (fX3_setting_now S (8 : Int32)).bind fun u16 =>
        if v4 = 0 then
          fX2_search_now_shelves_21 fu (gU2 (gU1 S 128 v5) 129 ((v8 + (u6).toInt64) - ((u16).toInt64 - v6))) v3 (1 : Int32) v10 ((u16).toInt64) (0 : Int64) (v10 + 1)
        else
          if (lg_cmp (if 0 < ((v8 + (u6).toInt64) - ((u16).toInt64 - v6)) then ((v8 + (u6).toInt64) - ((u16).toInt64 - v6)) else -((v8 + (u6).toInt64) - ((u16).toInt64 - v6))) (if 0 < (S.2.1 129) then (S.2.1 129) else -(S.2.1 129))) ≤ 0 then
            fX2_search_now_shelves_21 fu S v3 (1 : Int32) v10 ((u16).toInt64) (0 : Int64) (v10 + 1)
          else
            fX2_search_now_shelves_21 fu (gU2 (gU1 S 128 v5) 129 ((v8 + (u6).toInt64) - ((u16).toInt64 - v6))) v3 (1 : Int32) v10 ((u16).toInt64) (0 : Int64) (v10 + 1)
      else
        (fX5_numberAt S v3 v10).bind fun u11 =>
        if u11 = (-32768 : Int32) then
          fX2_search_now_shelves_21 fu S v3 v4 v5 v6 (v8 + (u6).toInt64) (v10 + 1)
        else
          if v4 = 0 then
            fX2_search_now_shelves_21 fu (gU2 (gU1 S 128 v5) 129 ((v8 + (u6).toInt64) - ((u11).toInt64 - v6))) v3 (1 : Int32) v10 ((u11).toInt64) (0 : Int64) (v10 + 1)
          else
            if (lg_cmp (if 0 < ((v8 + (u6).toInt64) - ((u11).toInt64 - v6)) then ((v8 + (u6).toInt64) - ((u11).toInt64 - v6)) else -((v8 + (u6).toInt64) - ((u11).toInt64 - v6))) (if 0 < (S.2.1 129) then (S.2.1 129) else -(S.2.1 129))) ≤ 0 then
              fX2_search_now_shelves_21 fu S v3 (1 : Int32) v10 ((u11).toInt64) (0 : Int64) (v10 + 1)
            else
              fX2_search_now_shelves_21 fu (gU2 (gU1 S 128 v5) 129 ((v8 + (u6).toInt64) - ((u11).toInt64 - v6))) v3 (1 : Int32) v10 ((u11).toInt64) (0 : Int64) (v10 + 1)
set_option maxHeartbeats 4000000 in
set_option maxRecDepth 100000 in
theorem bX2_search_now_shelves_21 {p : Program} {l : Launch} {e : Env} {s : State} {m : MethodId} {args : Array Value} {below : List Frame} {meth : Method} {c : Code} {Q : State → Prop} {G : GP} (X : GX p s m meth c args cX2_search 15 none wsX2_search RX2) (E : gE WX G s)  : ∀ (fu : Nat) (S : GS) (v3 : Int32) (v4 : Int32) (v5 : Int32) (v6 : Int64) (v8 : Int64) (v10 : Int32) (R : GS) (H : Heap) (locs : List Loc) (ls : Array Slot) (_ : fX2_search_now_shelves_21 fu S v3 v4 v5 v6 v8 v10 = some R) (_ : va_P (gD G) vwCl (WX G S ++ gF G) H) (_ : va_S (gA G) s.heap H locs) (_ : lv_has ls 15 [(0, .ref (ga G 143)), (1, .ref (ga G 15)), (2, .ref (ga G 79)), (3, .int v3), (4, .int v4), (5, .int v5), (6, .long v6), (8, .long v8), (10, .int v10)]) (_ : ∀ (H : Heap) (locs : List Loc) (ls : Array Slot), va_P (gD G) vwCl (WX G R ++ gF G) H → va_S (gA G) s.heap H locs → lv_has ls 15 [] → W p l e (gR 5 108) s m args below meth c H locs 0 0 Q (F0 m 161 ls [])), W p l e (gR 5 108) s m args below meth c H locs 0 0 Q (F0 m 21 ls []) := by
  obtain ⟨hx, hb, -, -, hown, hts, -⟩ := id X
  intro fu
  induction fu with
  | zero =>
    intro S v3 v4 v5 v6 v8 v10 R H locs ls hf
    cases (show (none : Option GS) = some R from hf)
  | succ fu ih =>
    intro S v3 v4 v5 v6 v8 v10 R H locs ls hf hP hS hl kk
    rw [fX2_search_now_shelves_21] at hf
    refine lv_iload hx hb dX2_search_21 (lv_at hl 8 rfl) ?_
    refine lv_aload_n hx hb dX2_search_23 rfl (lv_at hl 1 rfl) ?_
    obtain ⟨u3, h4, hf⟩ := g_bind hf
    refine g_vi (rest := [.int v10]) X E hP hS (tcX3_count_now l G _  h4) (g_cwV X gX2_search_X3_count rfl hdX3_count ⟨Nat.le_of_ble_eq_true rfl, Nat.le_of_ble_eq_true rfl⟩) (rcX_now E hP) rfl hl.1 rfl (Nat.le_of_ble_eq_true rfl) dX2_search_24 ⟨Nat.le_refl _, Nat.le_refl _⟩ (fun H locs hP hS => ?_)
    refine lv_icmp_gt (tgt := 161) hx hb dX2_search_27 (by decide) (fun c5 => ?_) (fun c5 => ?_)
    · have hf := g_ift hf c5
      obtain rfl := g_some hf
      exact kk _ _ _ hP hS (lv_sub hl [] rfl)
    · have hf := g_iff hf c5
      refine lv_lload hx hb dX2_search_30 (lv_at hl 7 rfl) ?_
      refine lv_aload_n hx hb dX2_search_32 rfl (lv_at hl 1 rfl) ?_
      refine lv_iload hx hb dX2_search_33 (lv_at hl 8 rfl) ?_
      refine lv_iconst (v := 1) hx hb dX2_search_35 (by decide) ?_
      refine lv_isub hx hb dX2_search_36 ?_
      obtain ⟨u6, h7, hf⟩ := g_bind hf
      refine g_vi (rest := [.long v8]) X E hP hS (tcX3_riseOf_now l G _ _ h7) (g_cwV X gX2_search_X3_riseOf rfl hdX3_riseOf ⟨Nat.le_of_ble_eq_true rfl, Nat.le_of_ble_eq_true rfl⟩) (rcX_now E hP) rfl hl.1 rfl (Nat.le_of_ble_eq_true rfl) dX2_search_37 ⟨Nat.le_refl _, Nat.le_refl _⟩ (fun H locs hP hS => ?_)
      refine lv_i2l hx hb dX2_search_40 rfl ?_
      refine lv_ladd hx hb dX2_search_41 ?_
      refine lv_lstore (lv' := [(8, .long (v8 + (u6).toInt64)), (0, .ref (ga G 143)), (1, .ref (ga G 15)), (2, .ref (ga G 79)), (3, .int v3), (4, .int v4), (5, .int v5), (6, .long v6), (10, .int v10)]) hx hb dX2_search_42 hl (by decide) rfl (fun ls hl => ?_)
      refine lv_iload hx hb dX2_search_44 (lv_at hl 8 rfl) ?_
      refine lv_aload_n hx hb dX2_search_46 rfl (lv_at hl 2 rfl) ?_
      obtain ⟨u8, h9, hf⟩ := g_bind hf
      refine g_vi (rest := [.int v10]) X E hP hS (tcX3_count_now l G _  h9) (g_cwV X gX2_search_X3_count rfl hdX3_count ⟨Nat.le_of_ble_eq_true rfl, Nat.le_of_ble_eq_true rfl⟩) (rcX_now E hP) rfl hl.1 rfl (Nat.le_of_ble_eq_true rfl) dX2_search_47 ⟨Nat.le_refl _, Nat.le_refl _⟩ (fun H locs hP hS => ?_)
      refine lv_icmp_ne (tgt := 57) hx hb dX2_search_50 (by decide) (fun c10 => ?_) (fun c10 => ?_)
      · have hf := g_iff hf c10
        refine lv_iconst (v := 0) hx hb dX2_search_57 (by decide) ?_
        refine lv_istore (lv' := [(11, .int (0 : Int32)), (8, .long (v8 + (u6).toInt64)), (0, .ref (ga G 143)), (1, .ref (ga G 15)), (2, .ref (ga G 79)), (3, .int v3), (4, .int v4), (5, .int v5), (6, .long v6), (10, .int v10)]) hx hb dX2_search_58 hl (by decide) rfl (fun ls hl => ?_)
        refine lv_iload hx hb dX2_search_60 (lv_at hl 0 rfl) ?_
        refine lv_if_eq (tgt := 74) hx hb dX2_search_62 (by decide) (fun _ => ?_) (fun z => absurd z (by decide))
        refine lv_aload_n hx hb dX2_search_74 rfl (lv_at hl 4 rfl) ?_
        refine lv_iload_n hx hb dX2_search_75 rfl (lv_at hl 5 rfl) ?_
        refine lv_iload hx hb dX2_search_76 (lv_at hl 9 rfl) ?_
        obtain ⟨u11, h12, hf⟩ := g_bind hf
        refine g_vi (rest := []) X E hP hS (tcX5_numberAt l G _ _ _ h12) (g_cwV X gX2_search_X5_numberAt rfl hdX5_numberAt ⟨Nat.le_of_ble_eq_true rfl, Nat.le_of_ble_eq_true rfl⟩) (rcX_shelves E hP) rfl hl.1 rfl (Nat.le_of_ble_eq_true rfl) dX2_search_78 ⟨Nat.le_refl _, Nat.le_refl _⟩ (fun H locs hP hS => ?_)
        refine lv_istore (lv' := [(12, .int u11), (11, .int (0 : Int32)), (8, .long (v8 + (u6).toInt64)), (0, .ref (ga G 143)), (1, .ref (ga G 15)), (2, .ref (ga G 79)), (3, .int v3), (4, .int v4), (5, .int v5), (6, .long v6), (10, .int v10)]) hx hb dX2_search_81 hl (by decide) rfl (fun ls hl => ?_)
        refine lv_iload hx hb dX2_search_83 (lv_at hl 1 rfl) ?_
        refine lv_if_ne (tgt := 96) hx hb dX2_search_85 (by decide) (fun z => absurd z (by decide)) (fun _ => ?_)
        refine lv_iload hx hb dX2_search_88 (lv_at hl 0 rfl) ?_
        refine lv_sipush (v := -32768) hx hb dX2_search_90 (by decide) ?_
        refine lv_icmp_eq (tgt := 155) hx hb dX2_search_93 (by decide) (fun c13 => ?_) (fun c13 => ?_)
        · have hf := g_ift hf c13
          refine lv_iinc (v := (v10 + 1)) (lv' := [(10, .int (v10 + 1)), (12, .int u11), (11, .int (0 : Int32)), (8, .long (v8 + (u6).toInt64)), (0, .ref (ga G 143)), (1, .ref (ga G 15)), (2, .ref (ga G 79)), (3, .int v3), (4, .int v4), (5, .int v5), (6, .long v6)]) hx hb dX2_search_155 hl (k := 10) rfl rfl (by decide) rfl (fun ls hl => ?_)
          refine lv_goto (tgt := 21) hx hb dX2_search_158 (by decide) ?_
          exact ih _ _ _ _ _ _ _ _ _ _ _ hf hP hS (lv_sub hl [4, 5, 6, 7, 8, 9, 10, 3, 0] rfl) kk
        · have hf := g_iff hf c13
          refine lv_lload hx hb dX2_search_96 (lv_at hl 2 rfl) ?_
          refine lv_iload hx hb dX2_search_98 (lv_at hl 0 rfl) ?_
          refine lv_i2l hx hb dX2_search_100 rfl ?_
          refine lv_lload hx hb dX2_search_101 (lv_at hl 9 rfl) ?_
          refine lv_lsub hx hb dX2_search_103 ?_
          refine lv_lsub hx hb dX2_search_104 ?_
          refine lv_lstore (lv' := [(13, .long ((v8 + (u6).toInt64) - ((u11).toInt64 - v6))), (12, .int u11), (11, .int (0 : Int32)), (8, .long (v8 + (u6).toInt64)), (0, .ref (ga G 143)), (1, .ref (ga G 15)), (2, .ref (ga G 79)), (3, .int v3), (4, .int v4), (5, .int v5), (6, .long v6), (10, .int v10)]) hx hb dX2_search_105 hl (by decide) rfl (fun ls hl => ?_)
          refine lv_iload hx hb dX2_search_107 (lv_at hl 8 rfl) ?_
          refine lv_if_eq (tgt := 128) hx hb dX2_search_109 (by decide) (fun c14 => ?_) (fun c14 => ?_)
          · have hf := g_ift hf c14
            refine lv_aload_n hx hb dX2_search_128 rfl (lv_at hl 4 rfl) ?_
            refine lv_iload hx hb dX2_search_129 (lv_at hl 9 rfl) ?_
            refine gpX_128 X E hP hS inX2_search_X2 lkX2_search_0 dX2_search_131 (fun H locs hP hS => ?_)
            refine lv_aload_n hx hb dX2_search_134 rfl (lv_at hl 4 rfl) ?_
            refine lv_lload hx hb dX2_search_135 (lv_at hl 0 rfl) ?_
            refine gpX_129 X E hP hS inX2_search_X2 lkX2_search_1 dX2_search_137 (fun H locs hP hS => ?_)
            refine lv_iconst (v := 1) hx hb dX2_search_140 (by decide) ?_
            refine lv_istore (lv' := [(4, .int (1 : Int32)), (13, .long ((v8 + (u6).toInt64) - ((u11).toInt64 - v6))), (12, .int u11), (11, .int (0 : Int32)), (8, .long (v8 + (u6).toInt64)), (0, .ref (ga G 143)), (1, .ref (ga G 15)), (2, .ref (ga G 79)), (3, .int v3), (5, .int v5), (6, .long v6), (10, .int v10)]) hx hb dX2_search_141 hl (by decide) rfl (fun ls hl => ?_)
            refine lv_iload hx hb dX2_search_143 (lv_at hl 11 rfl) ?_
            refine lv_istore (lv' := [(5, .int v10), (4, .int (1 : Int32)), (13, .long ((v8 + (u6).toInt64) - ((u11).toInt64 - v6))), (12, .int u11), (11, .int (0 : Int32)), (8, .long (v8 + (u6).toInt64)), (0, .ref (ga G 143)), (1, .ref (ga G 15)), (2, .ref (ga G 79)), (3, .int v3), (6, .long v6), (10, .int v10)]) hx hb dX2_search_145 hl (by decide) rfl (fun ls hl => ?_)
            refine lv_iload hx hb dX2_search_147 (lv_at hl 3 rfl) ?_
            refine lv_i2l hx hb dX2_search_149 rfl ?_
            refine lv_lstore (lv' := [(6, .long (u11).toInt64), (5, .int v10), (4, .int (1 : Int32)), (13, .long ((v8 + (u6).toInt64) - ((u11).toInt64 - v6))), (12, .int u11), (11, .int (0 : Int32)), (8, .long (v8 + (u6).toInt64)), (0, .ref (ga G 143)), (1, .ref (ga G 15)), (2, .ref (ga G 79)), (3, .int v3), (10, .int v10)]) hx hb dX2_search_150 hl (by decide) rfl (fun ls hl => ?_)
            refine lv_lconst (v := 0) hx hb dX2_search_152 (by decide) ?_
            refine lv_lstore (lv' := [(8, .long (0 : Int64)), (6, .long (u11).toInt64), (5, .int v10), (4, .int (1 : Int32)), (13, .long ((v8 + (u6).toInt64) - ((u11).toInt64 - v6))), (12, .int u11), (11, .int (0 : Int32)), (0, .ref (ga G 143)), (1, .ref (ga G 15)), (2, .ref (ga G 79)), (3, .int v3), (10, .int v10)]) hx hb dX2_search_153 hl (by decide) rfl (fun ls hl => ?_)
            refine lv_iinc (v := (v10 + 1)) (lv' := [(10, .int (v10 + 1)), (8, .long (0 : Int64)), (6, .long (u11).toInt64), (5, .int v10), (4, .int (1 : Int32)), (13, .long ((v8 + (u6).toInt64) - ((u11).toInt64 - v6))), (12, .int u11), (11, .int (0 : Int32)), (0, .ref (ga G 143)), (1, .ref (ga G 15)), (2, .ref (ga G 79)), (3, .int v3)]) hx hb dX2_search_155 hl (k := 11) rfl rfl (by decide) rfl (fun ls hl => ?_)
            refine lv_goto (tgt := 21) hx hb dX2_search_158 (by decide) ?_
            exact ih _ _ _ _ _ _ _ _ _ _ _ hf hP hS (lv_sub hl [8, 9, 10, 11, 4, 3, 2, 1, 0] rfl) kk
          · have hf := g_iff hf c14
            refine lv_lload hx hb dX2_search_112 (lv_at hl 0 rfl) ?_
            refine va_mabs_long hx hb (X.2.2.1.trans hl.1.symm) hown (hts _ lkX2_search_2) (hts _ lkX2_search_3) (hts _ lkX2_search_4) (hts _ lkX2_search_5) (Nat.le_of_ble_eq_true rfl) (Nat.le_of_ble_eq_true rfl) (Nat.le_refl _) (Nat.le_refl _) dX2_search_114 ?_
            refine lv_aload_n hx hb dX2_search_117 rfl (lv_at hl 4 rfl) ?_
            refine ggX_129 X E hP inX2_search_X2 lkX2_search_1 dX2_search_118 ?_
            refine va_mabs_long hx hb (X.2.2.1.trans hl.1.symm) hown (hts _ lkX2_search_2) (hts _ lkX2_search_3) (hts _ lkX2_search_4) (hts _ lkX2_search_5) (Nat.le_of_ble_eq_true rfl) (Nat.le_of_ble_eq_true rfl) (Nat.le_refl _) (Nat.le_refl _) dX2_search_121 ?_
            refine W.lcmp hx hb dX2_search_124 ?_
            refine lv_if_le (tgt := 140) hx hb dX2_search_125 (by decide) (fun c15 => ?_) (fun c15 => ?_)
            · have hf := g_ift hf c15
              refine lv_iconst (v := 1) hx hb dX2_search_140 (by decide) ?_
              refine lv_istore (lv' := [(4, .int (1 : Int32)), (13, .long ((v8 + (u6).toInt64) - ((u11).toInt64 - v6))), (12, .int u11), (11, .int (0 : Int32)), (8, .long (v8 + (u6).toInt64)), (0, .ref (ga G 143)), (1, .ref (ga G 15)), (2, .ref (ga G 79)), (3, .int v3), (5, .int v5), (6, .long v6), (10, .int v10)]) hx hb dX2_search_141 hl (by decide) rfl (fun ls hl => ?_)
              refine lv_iload hx hb dX2_search_143 (lv_at hl 11 rfl) ?_
              refine lv_istore (lv' := [(5, .int v10), (4, .int (1 : Int32)), (13, .long ((v8 + (u6).toInt64) - ((u11).toInt64 - v6))), (12, .int u11), (11, .int (0 : Int32)), (8, .long (v8 + (u6).toInt64)), (0, .ref (ga G 143)), (1, .ref (ga G 15)), (2, .ref (ga G 79)), (3, .int v3), (6, .long v6), (10, .int v10)]) hx hb dX2_search_145 hl (by decide) rfl (fun ls hl => ?_)
              refine lv_iload hx hb dX2_search_147 (lv_at hl 3 rfl) ?_
              refine lv_i2l hx hb dX2_search_149 rfl ?_
              refine lv_lstore (lv' := [(6, .long (u11).toInt64), (5, .int v10), (4, .int (1 : Int32)), (13, .long ((v8 + (u6).toInt64) - ((u11).toInt64 - v6))), (12, .int u11), (11, .int (0 : Int32)), (8, .long (v8 + (u6).toInt64)), (0, .ref (ga G 143)), (1, .ref (ga G 15)), (2, .ref (ga G 79)), (3, .int v3), (10, .int v10)]) hx hb dX2_search_150 hl (by decide) rfl (fun ls hl => ?_)
              refine lv_lconst (v := 0) hx hb dX2_search_152 (by decide) ?_
              refine lv_lstore (lv' := [(8, .long (0 : Int64)), (6, .long (u11).toInt64), (5, .int v10), (4, .int (1 : Int32)), (13, .long ((v8 + (u6).toInt64) - ((u11).toInt64 - v6))), (12, .int u11), (11, .int (0 : Int32)), (0, .ref (ga G 143)), (1, .ref (ga G 15)), (2, .ref (ga G 79)), (3, .int v3), (10, .int v10)]) hx hb dX2_search_153 hl (by decide) rfl (fun ls hl => ?_)
              refine lv_iinc (v := (v10 + 1)) (lv' := [(10, .int (v10 + 1)), (8, .long (0 : Int64)), (6, .long (u11).toInt64), (5, .int v10), (4, .int (1 : Int32)), (13, .long ((v8 + (u6).toInt64) - ((u11).toInt64 - v6))), (12, .int u11), (11, .int (0 : Int32)), (0, .ref (ga G 143)), (1, .ref (ga G 15)), (2, .ref (ga G 79)), (3, .int v3)]) hx hb dX2_search_155 hl (k := 11) rfl rfl (by decide) rfl (fun ls hl => ?_)
              refine lv_goto (tgt := 21) hx hb dX2_search_158 (by decide) ?_
              exact ih _ _ _ _ _ _ _ _ _ _ _ hf hP hS (lv_sub hl [8, 9, 10, 11, 4, 3, 2, 1, 0] rfl) kk
            · have hf := g_iff hf c15
              refine lv_aload_n hx hb dX2_search_128 rfl (lv_at hl 4 rfl) ?_
              refine lv_iload hx hb dX2_search_129 (lv_at hl 9 rfl) ?_
              refine gpX_128 X E hP hS inX2_search_X2 lkX2_search_0 dX2_search_131 (fun H locs hP hS => ?_)
              refine lv_aload_n hx hb dX2_search_134 rfl (lv_at hl 4 rfl) ?_
              refine lv_lload hx hb dX2_search_135 (lv_at hl 0 rfl) ?_
              refine gpX_129 X E hP hS inX2_search_X2 lkX2_search_1 dX2_search_137 (fun H locs hP hS => ?_)
              refine lv_iconst (v := 1) hx hb dX2_search_140 (by decide) ?_
              refine lv_istore (lv' := [(4, .int (1 : Int32)), (13, .long ((v8 + (u6).toInt64) - ((u11).toInt64 - v6))), (12, .int u11), (11, .int (0 : Int32)), (8, .long (v8 + (u6).toInt64)), (0, .ref (ga G 143)), (1, .ref (ga G 15)), (2, .ref (ga G 79)), (3, .int v3), (5, .int v5), (6, .long v6), (10, .int v10)]) hx hb dX2_search_141 hl (by decide) rfl (fun ls hl => ?_)
              refine lv_iload hx hb dX2_search_143 (lv_at hl 11 rfl) ?_
              refine lv_istore (lv' := [(5, .int v10), (4, .int (1 : Int32)), (13, .long ((v8 + (u6).toInt64) - ((u11).toInt64 - v6))), (12, .int u11), (11, .int (0 : Int32)), (8, .long (v8 + (u6).toInt64)), (0, .ref (ga G 143)), (1, .ref (ga G 15)), (2, .ref (ga G 79)), (3, .int v3), (6, .long v6), (10, .int v10)]) hx hb dX2_search_145 hl (by decide) rfl (fun ls hl => ?_)
              refine lv_iload hx hb dX2_search_147 (lv_at hl 3 rfl) ?_
              refine lv_i2l hx hb dX2_search_149 rfl ?_
              refine lv_lstore (lv' := [(6, .long (u11).toInt64), (5, .int v10), (4, .int (1 : Int32)), (13, .long ((v8 + (u6).toInt64) - ((u11).toInt64 - v6))), (12, .int u11), (11, .int (0 : Int32)), (8, .long (v8 + (u6).toInt64)), (0, .ref (ga G 143)), (1, .ref (ga G 15)), (2, .ref (ga G 79)), (3, .int v3), (10, .int v10)]) hx hb dX2_search_150 hl (by decide) rfl (fun ls hl => ?_)
              refine lv_lconst (v := 0) hx hb dX2_search_152 (by decide) ?_
              refine lv_lstore (lv' := [(8, .long (0 : Int64)), (6, .long (u11).toInt64), (5, .int v10), (4, .int (1 : Int32)), (13, .long ((v8 + (u6).toInt64) - ((u11).toInt64 - v6))), (12, .int u11), (11, .int (0 : Int32)), (0, .ref (ga G 143)), (1, .ref (ga G 15)), (2, .ref (ga G 79)), (3, .int v3), (10, .int v10)]) hx hb dX2_search_153 hl (by decide) rfl (fun ls hl => ?_)
              refine lv_iinc (v := (v10 + 1)) (lv' := [(10, .int (v10 + 1)), (8, .long (0 : Int64)), (6, .long (u11).toInt64), (5, .int v10), (4, .int (1 : Int32)), (13, .long ((v8 + (u6).toInt64) - ((u11).toInt64 - v6))), (12, .int u11), (11, .int (0 : Int32)), (0, .ref (ga G 143)), (1, .ref (ga G 15)), (2, .ref (ga G 79)), (3, .int v3)]) hx hb dX2_search_155 hl (k := 11) rfl rfl (by decide) rfl (fun ls hl => ?_)
              refine lv_goto (tgt := 21) hx hb dX2_search_158 (by decide) ?_
              exact ih _ _ _ _ _ _ _ _ _ _ _ hf hP hS (lv_sub hl [8, 9, 10, 11, 4, 3, 2, 1, 0] rfl) kk
      · have hf := g_ift hf c10
        refine lv_iconst (v := 1) hx hb dX2_search_53 (by decide) ?_
        refine lv_goto (tgt := 58) hx hb dX2_search_54 (by decide) ?_
        refine lv_istore (lv' := [(11, .int (1 : Int32)), (8, .long (v8 + (u6).toInt64)), (0, .ref (ga G 143)), (1, .ref (ga G 15)), (2, .ref (ga G 79)), (3, .int v3), (4, .int v4), (5, .int v5), (6, .long v6), (10, .int v10)]) hx hb dX2_search_58 hl (by decide) rfl (fun ls hl => ?_)
        refine lv_iload hx hb dX2_search_60 (lv_at hl 0 rfl) ?_
        refine lv_if_eq (tgt := 74) hx hb dX2_search_62 (by decide) (fun z => absurd z (by decide)) (fun _ => ?_)
        refine lv_aload_n hx hb dX2_search_65 rfl (lv_at hl 3 rfl) ?_
        refine lv_bipush (v := 8) hx hb dX2_search_66 (by decide) ?_
        obtain ⟨u16, h17, hf⟩ := g_bind hf
        refine g_vi (rest := []) X E hP hS (tcX3_setting_now l G _ _ h17) (g_cwV X gX2_search_X3_setting rfl hdX3_setting ⟨Nat.le_of_ble_eq_true rfl, Nat.le_of_ble_eq_true rfl⟩) (rcX_now E hP) rfl hl.1 rfl (Nat.le_of_ble_eq_true rfl) dX2_search_68 ⟨Nat.le_refl _, Nat.le_refl _⟩ (fun H locs hP hS => ?_)
        refine lv_goto (tgt := 81) hx hb dX2_search_71 (by decide) ?_
        refine lv_istore (lv' := [(12, .int u16), (11, .int (1 : Int32)), (8, .long (v8 + (u6).toInt64)), (0, .ref (ga G 143)), (1, .ref (ga G 15)), (2, .ref (ga G 79)), (3, .int v3), (4, .int v4), (5, .int v5), (6, .long v6), (10, .int v10)]) hx hb dX2_search_81 hl (by decide) rfl (fun ls hl => ?_)
        refine lv_iload hx hb dX2_search_83 (lv_at hl 1 rfl) ?_
        refine lv_if_ne (tgt := 96) hx hb dX2_search_85 (by decide) (fun _ => ?_) (fun z => absurd z (by decide))
        refine lv_lload hx hb dX2_search_96 (lv_at hl 2 rfl) ?_
        refine lv_iload hx hb dX2_search_98 (lv_at hl 0 rfl) ?_
        refine lv_i2l hx hb dX2_search_100 rfl ?_
        refine lv_lload hx hb dX2_search_101 (lv_at hl 9 rfl) ?_
        refine lv_lsub hx hb dX2_search_103 ?_
        refine lv_lsub hx hb dX2_search_104 ?_
        refine lv_lstore (lv' := [(13, .long ((v8 + (u6).toInt64) - ((u16).toInt64 - v6))), (12, .int u16), (11, .int (1 : Int32)), (8, .long (v8 + (u6).toInt64)), (0, .ref (ga G 143)), (1, .ref (ga G 15)), (2, .ref (ga G 79)), (3, .int v3), (4, .int v4), (5, .int v5), (6, .long v6), (10, .int v10)]) hx hb dX2_search_105 hl (by decide) rfl (fun ls hl => ?_)
        refine lv_iload hx hb dX2_search_107 (lv_at hl 8 rfl) ?_
        refine lv_if_eq (tgt := 128) hx hb dX2_search_109 (by decide) (fun c18 => ?_) (fun c18 => ?_)
        · have hf := g_ift hf c18
          refine lv_aload_n hx hb dX2_search_128 rfl (lv_at hl 4 rfl) ?_
          refine lv_iload hx hb dX2_search_129 (lv_at hl 9 rfl) ?_
          refine gpX_128 X E hP hS inX2_search_X2 lkX2_search_0 dX2_search_131 (fun H locs hP hS => ?_)
          refine lv_aload_n hx hb dX2_search_134 rfl (lv_at hl 4 rfl) ?_
          refine lv_lload hx hb dX2_search_135 (lv_at hl 0 rfl) ?_
          refine gpX_129 X E hP hS inX2_search_X2 lkX2_search_1 dX2_search_137 (fun H locs hP hS => ?_)
          refine lv_iconst (v := 1) hx hb dX2_search_140 (by decide) ?_
          refine lv_istore (lv' := [(4, .int (1 : Int32)), (13, .long ((v8 + (u6).toInt64) - ((u16).toInt64 - v6))), (12, .int u16), (11, .int (1 : Int32)), (8, .long (v8 + (u6).toInt64)), (0, .ref (ga G 143)), (1, .ref (ga G 15)), (2, .ref (ga G 79)), (3, .int v3), (5, .int v5), (6, .long v6), (10, .int v10)]) hx hb dX2_search_141 hl (by decide) rfl (fun ls hl => ?_)
          refine lv_iload hx hb dX2_search_143 (lv_at hl 11 rfl) ?_
          refine lv_istore (lv' := [(5, .int v10), (4, .int (1 : Int32)), (13, .long ((v8 + (u6).toInt64) - ((u16).toInt64 - v6))), (12, .int u16), (11, .int (1 : Int32)), (8, .long (v8 + (u6).toInt64)), (0, .ref (ga G 143)), (1, .ref (ga G 15)), (2, .ref (ga G 79)), (3, .int v3), (6, .long v6), (10, .int v10)]) hx hb dX2_search_145 hl (by decide) rfl (fun ls hl => ?_)
          refine lv_iload hx hb dX2_search_147 (lv_at hl 3 rfl) ?_
          refine lv_i2l hx hb dX2_search_149 rfl ?_
          refine lv_lstore (lv' := [(6, .long (u16).toInt64), (5, .int v10), (4, .int (1 : Int32)), (13, .long ((v8 + (u6).toInt64) - ((u16).toInt64 - v6))), (12, .int u16), (11, .int (1 : Int32)), (8, .long (v8 + (u6).toInt64)), (0, .ref (ga G 143)), (1, .ref (ga G 15)), (2, .ref (ga G 79)), (3, .int v3), (10, .int v10)]) hx hb dX2_search_150 hl (by decide) rfl (fun ls hl => ?_)
          refine lv_lconst (v := 0) hx hb dX2_search_152 (by decide) ?_
          refine lv_lstore (lv' := [(8, .long (0 : Int64)), (6, .long (u16).toInt64), (5, .int v10), (4, .int (1 : Int32)), (13, .long ((v8 + (u6).toInt64) - ((u16).toInt64 - v6))), (12, .int u16), (11, .int (1 : Int32)), (0, .ref (ga G 143)), (1, .ref (ga G 15)), (2, .ref (ga G 79)), (3, .int v3), (10, .int v10)]) hx hb dX2_search_153 hl (by decide) rfl (fun ls hl => ?_)
          refine lv_iinc (v := (v10 + 1)) (lv' := [(10, .int (v10 + 1)), (8, .long (0 : Int64)), (6, .long (u16).toInt64), (5, .int v10), (4, .int (1 : Int32)), (13, .long ((v8 + (u6).toInt64) - ((u16).toInt64 - v6))), (12, .int u16), (11, .int (1 : Int32)), (0, .ref (ga G 143)), (1, .ref (ga G 15)), (2, .ref (ga G 79)), (3, .int v3)]) hx hb dX2_search_155 hl (k := 11) rfl rfl (by decide) rfl (fun ls hl => ?_)
          refine lv_goto (tgt := 21) hx hb dX2_search_158 (by decide) ?_
          exact ih _ _ _ _ _ _ _ _ _ _ _ hf hP hS (lv_sub hl [8, 9, 10, 11, 4, 3, 2, 1, 0] rfl) kk
        · have hf := g_iff hf c18
          refine lv_lload hx hb dX2_search_112 (lv_at hl 0 rfl) ?_
          refine va_mabs_long hx hb (X.2.2.1.trans hl.1.symm) hown (hts _ lkX2_search_2) (hts _ lkX2_search_3) (hts _ lkX2_search_4) (hts _ lkX2_search_5) (Nat.le_of_ble_eq_true rfl) (Nat.le_of_ble_eq_true rfl) (Nat.le_refl _) (Nat.le_refl _) dX2_search_114 ?_
          refine lv_aload_n hx hb dX2_search_117 rfl (lv_at hl 4 rfl) ?_
          refine ggX_129 X E hP inX2_search_X2 lkX2_search_1 dX2_search_118 ?_
          refine va_mabs_long hx hb (X.2.2.1.trans hl.1.symm) hown (hts _ lkX2_search_2) (hts _ lkX2_search_3) (hts _ lkX2_search_4) (hts _ lkX2_search_5) (Nat.le_of_ble_eq_true rfl) (Nat.le_of_ble_eq_true rfl) (Nat.le_refl _) (Nat.le_refl _) dX2_search_121 ?_
          refine W.lcmp hx hb dX2_search_124 ?_
          refine lv_if_le (tgt := 140) hx hb dX2_search_125 (by decide) (fun c19 => ?_) (fun c19 => ?_)
          · have hf := g_ift hf c19
            refine lv_iconst (v := 1) hx hb dX2_search_140 (by decide) ?_
            refine lv_istore (lv' := [(4, .int (1 : Int32)), (13, .long ((v8 + (u6).toInt64) - ((u16).toInt64 - v6))), (12, .int u16), (11, .int (1 : Int32)), (8, .long (v8 + (u6).toInt64)), (0, .ref (ga G 143)), (1, .ref (ga G 15)), (2, .ref (ga G 79)), (3, .int v3), (5, .int v5), (6, .long v6), (10, .int v10)]) hx hb dX2_search_141 hl (by decide) rfl (fun ls hl => ?_)
            refine lv_iload hx hb dX2_search_143 (lv_at hl 11 rfl) ?_
            refine lv_istore (lv' := [(5, .int v10), (4, .int (1 : Int32)), (13, .long ((v8 + (u6).toInt64) - ((u16).toInt64 - v6))), (12, .int u16), (11, .int (1 : Int32)), (8, .long (v8 + (u6).toInt64)), (0, .ref (ga G 143)), (1, .ref (ga G 15)), (2, .ref (ga G 79)), (3, .int v3), (6, .long v6), (10, .int v10)]) hx hb dX2_search_145 hl (by decide) rfl (fun ls hl => ?_)
            refine lv_iload hx hb dX2_search_147 (lv_at hl 3 rfl) ?_
            refine lv_i2l hx hb dX2_search_149 rfl ?_
            refine lv_lstore (lv' := [(6, .long (u16).toInt64), (5, .int v10), (4, .int (1 : Int32)), (13, .long ((v8 + (u6).toInt64) - ((u16).toInt64 - v6))), (12, .int u16), (11, .int (1 : Int32)), (8, .long (v8 + (u6).toInt64)), (0, .ref (ga G 143)), (1, .ref (ga G 15)), (2, .ref (ga G 79)), (3, .int v3), (10, .int v10)]) hx hb dX2_search_150 hl (by decide) rfl (fun ls hl => ?_)
            refine lv_lconst (v := 0) hx hb dX2_search_152 (by decide) ?_
            refine lv_lstore (lv' := [(8, .long (0 : Int64)), (6, .long (u16).toInt64), (5, .int v10), (4, .int (1 : Int32)), (13, .long ((v8 + (u6).toInt64) - ((u16).toInt64 - v6))), (12, .int u16), (11, .int (1 : Int32)), (0, .ref (ga G 143)), (1, .ref (ga G 15)), (2, .ref (ga G 79)), (3, .int v3), (10, .int v10)]) hx hb dX2_search_153 hl (by decide) rfl (fun ls hl => ?_)
            refine lv_iinc (v := (v10 + 1)) (lv' := [(10, .int (v10 + 1)), (8, .long (0 : Int64)), (6, .long (u16).toInt64), (5, .int v10), (4, .int (1 : Int32)), (13, .long ((v8 + (u6).toInt64) - ((u16).toInt64 - v6))), (12, .int u16), (11, .int (1 : Int32)), (0, .ref (ga G 143)), (1, .ref (ga G 15)), (2, .ref (ga G 79)), (3, .int v3)]) hx hb dX2_search_155 hl (k := 11) rfl rfl (by decide) rfl (fun ls hl => ?_)
            refine lv_goto (tgt := 21) hx hb dX2_search_158 (by decide) ?_
            exact ih _ _ _ _ _ _ _ _ _ _ _ hf hP hS (lv_sub hl [8, 9, 10, 11, 4, 3, 2, 1, 0] rfl) kk
          · have hf := g_iff hf c19
            refine lv_aload_n hx hb dX2_search_128 rfl (lv_at hl 4 rfl) ?_
            refine lv_iload hx hb dX2_search_129 (lv_at hl 9 rfl) ?_
            refine gpX_128 X E hP hS inX2_search_X2 lkX2_search_0 dX2_search_131 (fun H locs hP hS => ?_)
            refine lv_aload_n hx hb dX2_search_134 rfl (lv_at hl 4 rfl) ?_
            refine lv_lload hx hb dX2_search_135 (lv_at hl 0 rfl) ?_
            refine gpX_129 X E hP hS inX2_search_X2 lkX2_search_1 dX2_search_137 (fun H locs hP hS => ?_)
            refine lv_iconst (v := 1) hx hb dX2_search_140 (by decide) ?_
            refine lv_istore (lv' := [(4, .int (1 : Int32)), (13, .long ((v8 + (u6).toInt64) - ((u16).toInt64 - v6))), (12, .int u16), (11, .int (1 : Int32)), (8, .long (v8 + (u6).toInt64)), (0, .ref (ga G 143)), (1, .ref (ga G 15)), (2, .ref (ga G 79)), (3, .int v3), (5, .int v5), (6, .long v6), (10, .int v10)]) hx hb dX2_search_141 hl (by decide) rfl (fun ls hl => ?_)
            refine lv_iload hx hb dX2_search_143 (lv_at hl 11 rfl) ?_
            refine lv_istore (lv' := [(5, .int v10), (4, .int (1 : Int32)), (13, .long ((v8 + (u6).toInt64) - ((u16).toInt64 - v6))), (12, .int u16), (11, .int (1 : Int32)), (8, .long (v8 + (u6).toInt64)), (0, .ref (ga G 143)), (1, .ref (ga G 15)), (2, .ref (ga G 79)), (3, .int v3), (6, .long v6), (10, .int v10)]) hx hb dX2_search_145 hl (by decide) rfl (fun ls hl => ?_)
            refine lv_iload hx hb dX2_search_147 (lv_at hl 3 rfl) ?_
            refine lv_i2l hx hb dX2_search_149 rfl ?_
            refine lv_lstore (lv' := [(6, .long (u16).toInt64), (5, .int v10), (4, .int (1 : Int32)), (13, .long ((v8 + (u6).toInt64) - ((u16).toInt64 - v6))), (12, .int u16), (11, .int (1 : Int32)), (8, .long (v8 + (u6).toInt64)), (0, .ref (ga G 143)), (1, .ref (ga G 15)), (2, .ref (ga G 79)), (3, .int v3), (10, .int v10)]) hx hb dX2_search_150 hl (by decide) rfl (fun ls hl => ?_)
            refine lv_lconst (v := 0) hx hb dX2_search_152 (by decide) ?_
            refine lv_lstore (lv' := [(8, .long (0 : Int64)), (6, .long (u16).toInt64), (5, .int v10), (4, .int (1 : Int32)), (13, .long ((v8 + (u6).toInt64) - ((u16).toInt64 - v6))), (12, .int u16), (11, .int (1 : Int32)), (0, .ref (ga G 143)), (1, .ref (ga G 15)), (2, .ref (ga G 79)), (3, .int v3), (10, .int v10)]) hx hb dX2_search_153 hl (by decide) rfl (fun ls hl => ?_)
            refine lv_iinc (v := (v10 + 1)) (lv' := [(10, .int (v10 + 1)), (8, .long (0 : Int64)), (6, .long (u16).toInt64), (5, .int v10), (4, .int (1 : Int32)), (13, .long ((v8 + (u6).toInt64) - ((u16).toInt64 - v6))), (12, .int u16), (11, .int (1 : Int32)), (0, .ref (ga G 143)), (1, .ref (ga G 15)), (2, .ref (ga G 79)), (3, .int v3)]) hx hb dX2_search_155 hl (k := 11) rfl rfl (by decide) rfl (fun ls hl => ?_)
            refine lv_goto (tgt := 21) hx hb dX2_search_158 (by decide) ?_
            exact ih _ _ _ _ _ _ _ _ _ _ _ hf hP hS (lv_sub hl [8, 9, 10, 11, 4, 3, 2, 1, 0] rfl) kk
def fX2_search_now_shelves (S : GS) (a1 : Int32) : Option GS :=
  (fX3_setting_now S (8 : Int32)).bind fun u1 =>
  (fX2_search_now_shelves_21 gFuel S a1 (0 : Int32) (0 : Int32) ((u1).toInt64) (0 : Int64) (1 : Int32)).bind fun u20 =>
  some u20
set_option maxHeartbeats 4000000 in
set_option maxRecDepth 100000 in
theorem tcX2_search_now_shelves (l : Launch) (G : GP) (S : GS) (a1 : Int32) {R : GS} (hf : fX2_search_now_shelves S a1 = some R) : CV l yX2_search wsX2_search 5 108 [.ref (ga G 143), .ref (ga G 15), .ref (ga G 79), .int a1] WX G S R := by
  refine g_met RX2 (cc := cX2_search) (nL := 15) (ret := none) (by decide) rfl rfl (Nat.le_of_ble_eq_true rfl) ?_
  intro p e s m below meth c ls X E hP hS hl
  have hl : lv_has ls 15 [(0, .ref (ga G 143)), (1, .ref (ga G 15)), (2, .ref (ga G 79)), (3, .int a1)] := hl
  obtain ⟨hx, hb, -, -, hown, hts, -⟩ := id X
  rw [fX2_search_now_shelves] at hf
  refine lv_iconst (v := 0) hx hb dX2_search_0 (by decide) ?_
  refine lv_istore (lv' := [(4, .int (0 : Int32)), (0, .ref (ga G 143)), (1, .ref (ga G 15)), (2, .ref (ga G 79)), (3, .int a1)]) hx hb dX2_search_1 hl (by decide) rfl (fun ls hl => ?_)
  refine lv_iconst (v := 0) hx hb dX2_search_3 (by decide) ?_
  refine lv_istore (lv' := [(5, .int (0 : Int32)), (4, .int (0 : Int32)), (0, .ref (ga G 143)), (1, .ref (ga G 15)), (2, .ref (ga G 79)), (3, .int a1)]) hx hb dX2_search_4 hl (by decide) rfl (fun ls hl => ?_)
  refine lv_aload_n hx hb dX2_search_6 rfl (lv_at hl 3 rfl) ?_
  refine lv_bipush (v := 8) hx hb dX2_search_7 (by decide) ?_
  obtain ⟨u1, h2, hf⟩ := g_bind hf
  refine g_vi (rest := []) X E hP hS (tcX3_setting_now l G _ _ h2) (g_cwV X gX2_search_X3_setting rfl hdX3_setting ⟨Nat.le_of_ble_eq_true rfl, Nat.le_of_ble_eq_true rfl⟩) (rcX_now E hP) rfl hl.1 rfl (Nat.le_of_ble_eq_true rfl) dX2_search_9 ⟨Nat.le_refl _, Nat.le_refl _⟩ (fun H locs hP hS => ?_)
  refine lv_i2l hx hb dX2_search_12 rfl ?_
  refine lv_lstore (lv' := [(6, .long (u1).toInt64), (5, .int (0 : Int32)), (4, .int (0 : Int32)), (0, .ref (ga G 143)), (1, .ref (ga G 15)), (2, .ref (ga G 79)), (3, .int a1)]) hx hb dX2_search_13 hl (by decide) rfl (fun ls hl => ?_)
  refine lv_lconst (v := 0) hx hb dX2_search_15 (by decide) ?_
  refine lv_lstore (lv' := [(8, .long (0 : Int64)), (6, .long (u1).toInt64), (5, .int (0 : Int32)), (4, .int (0 : Int32)), (0, .ref (ga G 143)), (1, .ref (ga G 15)), (2, .ref (ga G 79)), (3, .int a1)]) hx hb dX2_search_16 hl (by decide) rfl (fun ls hl => ?_)
  refine lv_iconst (v := 1) hx hb dX2_search_18 (by decide) ?_
  refine lv_istore (lv' := [(10, .int (1 : Int32)), (8, .long (0 : Int64)), (6, .long (u1).toInt64), (5, .int (0 : Int32)), (4, .int (0 : Int32)), (0, .ref (ga G 143)), (1, .ref (ga G 15)), (2, .ref (ga G 79)), (3, .int a1)]) hx hb dX2_search_19 hl (by decide) rfl (fun ls hl => ?_)
  obtain ⟨u20, h21, hf⟩ := g_bind hf
  refine bX2_search_now_shelves_21 X E gFuel _ _ _ _ _ _ _ u20 _ _ _ h21 hP hS (lv_sub hl [5, 6, 7, 8, 4, 3, 2, 1, 0] rfl) (fun H locs ls hP hS hl => ?_)
  have hl : lv_has ls 15 [] := hl
  have hP : va_P (gD G) vwCl (WX G u20 ++ gF G) H := hP
  obtain rfl := g_some hf
  exact g_rv X E hP hS dX2_search_161
