/-! the law: one case a method -/
abbrev LB : Type := va_G × ClassId × ClassId × (Nat → Nat) × (Nat → Nat) × Nat × (Nat → Nat) × (Nat → Nat) × (Nat → Nat)
abbrev bx (B : LB) (F : va_W) : GP := (B.1, B.2.1, B.2.2.1, B.2.2.2.1, F, B.2.2.2.2.2.1, B.2.2.2.2.2.2)
abbrev bm (B : LB) (F : va_W) : GP := (B.1, B.2.1, B.2.2.1, B.2.2.2.2.1, F, B.2.2.2.2.2.1, B.2.2.2.2.2.2)
abbrev lA (B : LB) : Nat → Prop := fun q => B.2.2.2.2.2.1 ≤ q
def wX (B : LB) (X : GS) : va_W := WX (bx B []) X
def wM (B : LB) (M : GS) : va_W := WM (bm B []) M
def LEv (B : LB) (s : State) : Prop := (∀ M, gE WX (bx B (wM B M)) s) ∧ ∀ X, gE WM (bm B (wX B X)) s
theorem va_sw {D : va_G} {cl : List vw_C} {a b : va_W} {H : Heap} (h : va_P D cl (a ++ b) H) : va_P D cl (b ++ a) H := by
  intro k q hk
  rcases List.mem_append.mp (List.mem_of_getElem? hk) with z | z
  · obtain ⟨i, hi⟩ := List.getElem?_of_mem (List.mem_append_right a z)
    exact h i q hi
  · obtain ⟨i, hi⟩ := List.getElem?_of_mem (List.mem_append_left b z)
    exact h i q hi
theorem toX {B : LB} {X M : GS} {H : Heap} (h : va_P B.1 vwCl (wX B X ++ wM B M) H) : va_P (gD (bx B (wM B M))) vwCl (WX (bx B (wM B M)) X ++ gF (bx B (wM B M))) H := h
theorem ofX {B : LB} {X M : GS} {H : Heap} (h : va_P (gD (bx B (wM B M))) vwCl (WX (bx B (wM B M)) X ++ gF (bx B (wM B M))) H) : va_P B.1 vwCl (wX B X ++ wM B M) H := h
theorem toM {B : LB} {X M : GS} {H : Heap} (h : va_P B.1 vwCl (wX B X ++ wM B M) H) : va_P (gD (bm B (wX B X))) vwCl (WM (bm B (wX B X)) M ++ gF (bm B (wX B X))) H := va_sw h
theorem ofM {B : LB} {X M : GS} {H : Heap} (h : va_P (gD (bm B (wX B X))) vwCl (WM (bm B (wX B X)) M ++ gF (bm B (wX B X))) H) : va_P B.1 vwCl (wX B X ++ wM B M) H := va_sw h
theorem lkL_18 : Cond.constantLong RL 18 (4294967295) ∈ wsL_law := by decide +kernel
section LAW
variable {p : Program} {l : Launch} {e : Env} {s : State} {m : MethodId} {below : List Frame} {meth : Method} {c : Code} {b L : Nat} {xs : Nat → Int32} {B : LB} {H : Heap} {locs : List Loc} {cells slots : Nat} {Q : State → Prop} {ls : Array Slot} {X M : GS} {i : Nat} {pc : Nat} {rest : List Value}
theorem l_sld (Xg : GX p s m meth c #[Value.ref b] cL_law 4 ret wsL_law RL) (hX : va_X b L xs s s.heap) (hbl : b < s.heap.size) (hbA : ¬ lA B b) (hS : va_S (lA B) s.heap H locs) {x v : Int32} (hin : vp_in x L) (hv : xs x.toNatClampNeg = v) (hdg : decode cL_law pc = .ok (.iaload, 1)) (kk : W p l e room_1 s m #[Value.ref b] below meth c H locs cells slots Q (F0 m (pc + 1) ls (.int v :: rest))) : W p l e room_1 s m #[Value.ref b] below meth c H locs cells slots Q (F0 m pc ls (.int x :: .ref b :: rest)) :=
  va_sld Xg.1 Xg.2.1 hX hbl hbA hS hin hdg (by rw [hv]; exact kk)
theorem hdL_X8_row : yX8_row.cls = RX8 ∧ yX8_row.cls ≠ "java/lang/invoke/MethodHandle" ∧ yX8_row.cls ≠ "java/lang/invoke/VarHandle" ∧ (parseMethodDescriptor yX8_row.desc).map (fun d => d.parameters.length) = some 3 := by decide +kernel
theorem hdL_X9_row : yX9_row.cls = RX9 ∧ yX9_row.cls ≠ "java/lang/invoke/MethodHandle" ∧ yX9_row.cls ≠ "java/lang/invoke/VarHandle" ∧ (parseMethodDescriptor yX9_row.desc).map (fun d => d.parameters.length) = some 3 := by decide +kernel
set_option maxHeartbeats 4000000 in
set_option maxRecDepth 20000 in
theorem law_c0 (Xg : GX p s m meth c #[Value.ref b] cL_law 4 ret wsL_law RL) (hE0 : LEv B s) (hX : va_X b L xs s s.heap) (hbl : b < s.heap.size) (hbA : ¬ lA B b) (hR : Rel X M) (hP : va_P B.1 vwCl (wX B X ++ wM B M) H) (hS : va_S (lA B) s.heap H locs) (hl : lv_has ls 4 [(3, .int (nI i)), (2, .ref (B.2.2.2.2.1 63)), (1, .ref (B.2.2.2.1 63)), (0, .ref b)]) (hcs : cells ≤ room_1.cells ∧ slots ≤ room_1.slots) {v1 : Int32} (in1 : vp_in (nI i + 1) L) (hv1 : xs (nI i + 1).toNatClampNeg = v1) {v2 : Int32} (in2 : vp_in (nI i + 2) L) (hv2 : xs (nI i + 2).toNatClampNeg = v2) {v3 : Int32} (in3 : vp_in (nI i + 3) L) (hv3 : xs (nI i + 3).toNatClampNeg = v3) (kk : ∀ (X' M' : GS) (H1 : Heap) (locs1 : List Loc), Rel X' M' → va_P B.1 vwCl (wX B X' ++ wM B M') H1 → va_S (lA B) s.heap H1 locs1 → W p l e room_1 s m #[Value.ref b] below meth c H1 locs1 cells slots Q (F0 m 1330 ls [])) : W p l e room_1 s m #[Value.ref b] below meth c H locs cells slots Q (F0 m 196 ls []) := by
  obtain ⟨hx, hb, -, -, hown, hts, -⟩ := id Xg
  obtain ⟨R, R', f1, f2, hE, hR'⟩ := s_row hR (v1) (v2) (v3)
  refine lv_aload_n hx hb dL_law_196 rfl (lv_at hl 2 rfl) ?_
  refine lv_aload_n hx hb dL_law_197 rfl (lv_at hl 3 rfl) ?_
  refine lv_iload_n hx hb dL_law_198 rfl (lv_at hl 0 rfl) ?_
  refine lv_iconst (v := (1 : Int32)) hx hb dL_law_199 (by decide) ?_
  refine lv_iadd hx hb dL_law_200 ?_
  refine l_sld Xg hX hbl hbA hS in1 hv1 dL_law_201 ?_
  refine lv_aload_n hx hb dL_law_202 rfl (lv_at hl 3 rfl) ?_
  refine lv_iload_n hx hb dL_law_203 rfl (lv_at hl 0 rfl) ?_
  refine lv_iconst (v := (2 : Int32)) hx hb dL_law_204 (by decide) ?_
  refine lv_iadd hx hb dL_law_205 ?_
  refine l_sld Xg hX hbl hbA hS in2 hv2 dL_law_206 ?_
  refine lv_aload_n hx hb dL_law_207 rfl (lv_at hl 3 rfl) ?_
  refine lv_iload_n hx hb dL_law_208 rfl (lv_at hl 0 rfl) ?_
  refine lv_iconst (v := (3 : Int32)) hx hb dL_law_209 (by decide) ?_
  refine lv_iadd hx hb dL_law_210 ?_
  refine l_sld Xg hX hbl hbA hS in3 hv3 dL_law_211 ?_
  refine g_vi (rest := []) (G := bx B (wM B M)) Xg (hE0.1 M) (toX hP) hS (tcX8_row l _ X _ _ _ f1) (g_cwV Xg gL_law_X8_row rfl hdL_X8_row ⟨(Nat.le_of_ble_eq_true rfl), (Nat.le_of_ble_eq_true rfl)⟩) (rcX_main (hE0.1 M) (toX hP)) rfl hl.1 rfl (Nat.le_of_ble_eq_true rfl) dL_law_212 hcs (fun H locs hP hS => ?_)
  have hP : va_P B.1 vwCl (wX B R.2 ++ wM B M) H := ofX hP
  refine lv_aload_n hx hb dL_law_215 rfl (lv_at hl 1 rfl) ?_
  refine lv_aload_n hx hb dL_law_216 rfl (lv_at hl 3 rfl) ?_
  refine lv_iload_n hx hb dL_law_217 rfl (lv_at hl 0 rfl) ?_
  refine lv_iconst (v := (1 : Int32)) hx hb dL_law_218 (by decide) ?_
  refine lv_iadd hx hb dL_law_219 ?_
  refine l_sld Xg hX hbl hbA hS in1 hv1 dL_law_220 ?_
  refine lv_aload_n hx hb dL_law_221 rfl (lv_at hl 3 rfl) ?_
  refine lv_iload_n hx hb dL_law_222 rfl (lv_at hl 0 rfl) ?_
  refine lv_iconst (v := (2 : Int32)) hx hb dL_law_223 (by decide) ?_
  refine lv_iadd hx hb dL_law_224 ?_
  refine l_sld Xg hX hbl hbA hS in2 hv2 dL_law_225 ?_
  refine lv_aload_n hx hb dL_law_226 rfl (lv_at hl 3 rfl) ?_
  refine lv_iload_n hx hb dL_law_227 rfl (lv_at hl 0 rfl) ?_
  refine lv_iconst (v := (3 : Int32)) hx hb dL_law_228 (by decide) ?_
  refine lv_iadd hx hb dL_law_229 ?_
  refine l_sld Xg hX hbl hbA hS in3 hv3 dL_law_230 ?_
  refine g_vi (rest := [.int R.1]) (G := bm B (wX B R.2)) Xg (hE0.2 R.2) (toM hP) hS (tcX9_row l _ M _ _ _ f2) (g_cwV Xg gL_law_X9_row rfl hdL_X9_row ⟨(Nat.le_of_ble_eq_true rfl), (Nat.le_of_ble_eq_true rfl)⟩) (rcM_model (hE0.2 R.2) (toM hP)) rfl hl.1 rfl (Nat.le_of_ble_eq_true rfl) dL_law_231 hcs (fun H locs hP hS => ?_)
  have hP : va_P B.1 vwCl (wX B R.2 ++ wM B R'.2) H := ofM hP
  exact lv_icmp_eq (tgt := 1330) hx hb dL_law_234 (by decide) (fun _ => kk _ _ _ _ hR' hP hS) (fun c1 => absurd hE c1)
theorem hdL_X8_set : yX8_set.cls = RX8 ∧ yX8_set.cls ≠ "java/lang/invoke/MethodHandle" ∧ yX8_set.cls ≠ "java/lang/invoke/VarHandle" ∧ (parseMethodDescriptor yX8_set.desc).map (fun d => d.parameters.length) = some 3 := by decide +kernel
theorem hdL_X9_set : yX9_set.cls = RX9 ∧ yX9_set.cls ≠ "java/lang/invoke/MethodHandle" ∧ yX9_set.cls ≠ "java/lang/invoke/VarHandle" ∧ (parseMethodDescriptor yX9_set.desc).map (fun d => d.parameters.length) = some 3 := by decide +kernel
set_option maxHeartbeats 4000000 in
set_option maxRecDepth 20000 in
theorem law_c1 (Xg : GX p s m meth c #[Value.ref b] cL_law 4 ret wsL_law RL) (hE0 : LEv B s) (hX : va_X b L xs s s.heap) (hbl : b < s.heap.size) (hbA : ¬ lA B b) (hR : Rel X M) (hP : va_P B.1 vwCl (wX B X ++ wM B M) H) (hS : va_S (lA B) s.heap H locs) (hl : lv_has ls 4 [(3, .int (nI i)), (2, .ref (B.2.2.2.2.1 63)), (1, .ref (B.2.2.2.1 63)), (0, .ref b)]) (hcs : cells ≤ room_1.cells ∧ slots ≤ room_1.slots) {v1 : Int32} (in1 : vp_in (nI i + 1) L) (hv1 : xs (nI i + 1).toNatClampNeg = v1) {v2 : Int32} (in2 : vp_in (nI i + 2) L) (hv2 : xs (nI i + 2).toNatClampNeg = v2) {v3 : Int32} (in3 : vp_in (nI i + 3) L) (hv3 : xs (nI i + 3).toNatClampNeg = v3) {v4 : Int32} (in4 : vp_in (nI i + 4) L) (hv4 : xs (nI i + 4).toNatClampNeg = v4) (kk : ∀ (X' M' : GS) (H1 : Heap) (locs1 : List Loc), Rel X' M' → va_P B.1 vwCl (wX B X' ++ wM B M') H1 → va_S (lA B) s.heap H1 locs1 → W p l e room_1 s m #[Value.ref b] below meth c H1 locs1 cells slots Q (F0 m 1330 ls [])) : W p l e room_1 s m #[Value.ref b] below meth c H locs cells slots Q (F0 m 239 ls []) := by
  obtain ⟨hx, hb, -, -, hown, hts, -⟩ := id Xg
  obtain ⟨R, R', f1, f2, hE, hR'⟩ := s_set hR (v1) (v2) ((((v3).toInt64 <<< (((32 : Int32)).toInt64 &&& 63)) ||| ((v4).toInt64 &&& (4294967295 : Int64))))
  refine lv_aload_n hx hb dL_law_239 rfl (lv_at hl 2 rfl) ?_
  refine lv_aload_n hx hb dL_law_240 rfl (lv_at hl 3 rfl) ?_
  refine lv_iload_n hx hb dL_law_241 rfl (lv_at hl 0 rfl) ?_
  refine lv_iconst (v := (1 : Int32)) hx hb dL_law_242 (by decide) ?_
  refine lv_iadd hx hb dL_law_243 ?_
  refine l_sld Xg hX hbl hbA hS in1 hv1 dL_law_244 ?_
  refine lv_aload_n hx hb dL_law_245 rfl (lv_at hl 3 rfl) ?_
  refine lv_iload_n hx hb dL_law_246 rfl (lv_at hl 0 rfl) ?_
  refine lv_iconst (v := (2 : Int32)) hx hb dL_law_247 (by decide) ?_
  refine lv_iadd hx hb dL_law_248 ?_
  refine l_sld Xg hX hbl hbA hS in2 hv2 dL_law_249 ?_
  refine lv_aload_n hx hb dL_law_250 rfl (lv_at hl 3 rfl) ?_
  refine lv_iload_n hx hb dL_law_251 rfl (lv_at hl 0 rfl) ?_
  refine lv_iconst (v := (3 : Int32)) hx hb dL_law_252 (by decide) ?_
  refine lv_iadd hx hb dL_law_253 ?_
  refine l_sld Xg hX hbl hbA hS in3 hv3 dL_law_254 ?_
  refine lv_i2l hx hb dL_law_255 rfl ?_
  refine lv_bipush (v := (32 : Int32)) hx hb dL_law_256 (by decide) ?_
  refine lv_lshl hx hb dL_law_258 rfl ?_
  refine lv_aload_n hx hb dL_law_259 rfl (lv_at hl 3 rfl) ?_
  refine lv_iload_n hx hb dL_law_260 rfl (lv_at hl 0 rfl) ?_
  refine lv_iconst (v := (4 : Int32)) hx hb dL_law_261 (by decide) ?_
  refine lv_iadd hx hb dL_law_262 ?_
  refine l_sld Xg hX hbl hbA hS in4 hv4 dL_law_263 ?_
  refine lv_i2l hx hb dL_law_264 rfl ?_
  refine lv_ldc2 (v := (4294967295 : Int64)) hx hb hown (hts _ lkL_18) dL_law_265 ?_
  refine lv_land hx hb dL_law_268 ?_
  refine lv_lor hx hb dL_law_269 ?_
  refine g_vi (rest := []) (G := bx B (wM B M)) Xg (hE0.1 M) (toX hP) hS (tcX8_set l _ X _ _ _ f1) (g_cwV Xg gL_law_X8_set rfl hdL_X8_set ⟨(Nat.le_of_ble_eq_true rfl), (Nat.le_of_ble_eq_true rfl)⟩) (rcX_main (hE0.1 M) (toX hP)) rfl hl.1 rfl (Nat.le_of_ble_eq_true rfl) dL_law_270 hcs (fun H locs hP hS => ?_)
  have hP : va_P B.1 vwCl (wX B R.2 ++ wM B M) H := ofX hP
  refine lv_aload_n hx hb dL_law_273 rfl (lv_at hl 1 rfl) ?_
  refine lv_aload_n hx hb dL_law_274 rfl (lv_at hl 3 rfl) ?_
  refine lv_iload_n hx hb dL_law_275 rfl (lv_at hl 0 rfl) ?_
  refine lv_iconst (v := (1 : Int32)) hx hb dL_law_276 (by decide) ?_
  refine lv_iadd hx hb dL_law_277 ?_
  refine l_sld Xg hX hbl hbA hS in1 hv1 dL_law_278 ?_
  refine lv_aload_n hx hb dL_law_279 rfl (lv_at hl 3 rfl) ?_
  refine lv_iload_n hx hb dL_law_280 rfl (lv_at hl 0 rfl) ?_
  refine lv_iconst (v := (2 : Int32)) hx hb dL_law_281 (by decide) ?_
  refine lv_iadd hx hb dL_law_282 ?_
  refine l_sld Xg hX hbl hbA hS in2 hv2 dL_law_283 ?_
  refine lv_aload_n hx hb dL_law_284 rfl (lv_at hl 3 rfl) ?_
  refine lv_iload_n hx hb dL_law_285 rfl (lv_at hl 0 rfl) ?_
  refine lv_iconst (v := (3 : Int32)) hx hb dL_law_286 (by decide) ?_
  refine lv_iadd hx hb dL_law_287 ?_
  refine l_sld Xg hX hbl hbA hS in3 hv3 dL_law_288 ?_
  refine lv_i2l hx hb dL_law_289 rfl ?_
  refine lv_bipush (v := (32 : Int32)) hx hb dL_law_290 (by decide) ?_
  refine lv_lshl hx hb dL_law_292 rfl ?_
  refine lv_aload_n hx hb dL_law_293 rfl (lv_at hl 3 rfl) ?_
  refine lv_iload_n hx hb dL_law_294 rfl (lv_at hl 0 rfl) ?_
  refine lv_iconst (v := (4 : Int32)) hx hb dL_law_295 (by decide) ?_
  refine lv_iadd hx hb dL_law_296 ?_
  refine l_sld Xg hX hbl hbA hS in4 hv4 dL_law_297 ?_
  refine lv_i2l hx hb dL_law_298 rfl ?_
  refine lv_ldc2 (v := (4294967295 : Int64)) hx hb hown (hts _ lkL_18) dL_law_299 ?_
  refine lv_land hx hb dL_law_302 ?_
  refine lv_lor hx hb dL_law_303 ?_
  refine g_vi (rest := [.int R.1]) (G := bm B (wX B R.2)) Xg (hE0.2 R.2) (toM hP) hS (tcX9_set l _ M _ _ _ f2) (g_cwV Xg gL_law_X9_set rfl hdL_X9_set ⟨(Nat.le_of_ble_eq_true rfl), (Nat.le_of_ble_eq_true rfl)⟩) (rcM_model (hE0.2 R.2) (toM hP)) rfl hl.1 rfl (Nat.le_of_ble_eq_true rfl) dL_law_304 hcs (fun H locs hP hS => ?_)
  have hP : va_P B.1 vwCl (wX B R.2 ++ wM B R'.2) H := ofM hP
  exact lv_icmp_eq (tgt := 1330) hx hb dL_law_307 (by decide) (fun _ => kk _ _ _ _ hR' hP hS) (fun c1 => absurd hE c1)
theorem hdL_X8_copy : yX8_copy.cls = RX8 ∧ yX8_copy.cls ≠ "java/lang/invoke/MethodHandle" ∧ yX8_copy.cls ≠ "java/lang/invoke/VarHandle" ∧ (parseMethodDescriptor yX8_copy.desc).map (fun d => d.parameters.length) = some 5 := by decide +kernel
theorem hdL_X9_copy : yX9_copy.cls = RX9 ∧ yX9_copy.cls ≠ "java/lang/invoke/MethodHandle" ∧ yX9_copy.cls ≠ "java/lang/invoke/VarHandle" ∧ (parseMethodDescriptor yX9_copy.desc).map (fun d => d.parameters.length) = some 5 := by decide +kernel
set_option maxHeartbeats 4000000 in
set_option maxRecDepth 20000 in
theorem law_c2 (Xg : GX p s m meth c #[Value.ref b] cL_law 4 ret wsL_law RL) (hE0 : LEv B s) (hX : va_X b L xs s s.heap) (hbl : b < s.heap.size) (hbA : ¬ lA B b) (hR : Rel X M) (hP : va_P B.1 vwCl (wX B X ++ wM B M) H) (hS : va_S (lA B) s.heap H locs) (hl : lv_has ls 4 [(3, .int (nI i)), (2, .ref (B.2.2.2.2.1 63)), (1, .ref (B.2.2.2.1 63)), (0, .ref b)]) (hcs : cells ≤ room_1.cells ∧ slots ≤ room_1.slots) {v1 : Int32} (in1 : vp_in (nI i + 1) L) (hv1 : xs (nI i + 1).toNatClampNeg = v1) {v2 : Int32} (in2 : vp_in (nI i + 2) L) (hv2 : xs (nI i + 2).toNatClampNeg = v2) {v3 : Int32} (in3 : vp_in (nI i + 3) L) (hv3 : xs (nI i + 3).toNatClampNeg = v3) {v4 : Int32} (in4 : vp_in (nI i + 4) L) (hv4 : xs (nI i + 4).toNatClampNeg = v4) {v5 : Int32} (in5 : vp_in (nI i + 5) L) (hv5 : xs (nI i + 5).toNatClampNeg = v5) (kk : ∀ (X' M' : GS) (H1 : Heap) (locs1 : List Loc), Rel X' M' → va_P B.1 vwCl (wX B X' ++ wM B M') H1 → va_S (lA B) s.heap H1 locs1 → W p l e room_1 s m #[Value.ref b] below meth c H1 locs1 cells slots Q (F0 m 1330 ls [])) : W p l e room_1 s m #[Value.ref b] below meth c H locs cells slots Q (F0 m 312 ls []) := by
  obtain ⟨hx, hb, -, -, hown, hts, -⟩ := id Xg
  obtain ⟨R, R', f1, f2, hE, hR'⟩ := s_copy hR (v1) (v2) (v3) (v4) (v5)
  refine lv_aload_n hx hb dL_law_312 rfl (lv_at hl 2 rfl) ?_
  refine lv_aload_n hx hb dL_law_313 rfl (lv_at hl 3 rfl) ?_
  refine lv_iload_n hx hb dL_law_314 rfl (lv_at hl 0 rfl) ?_
  refine lv_iconst (v := (1 : Int32)) hx hb dL_law_315 (by decide) ?_
  refine lv_iadd hx hb dL_law_316 ?_
  refine l_sld Xg hX hbl hbA hS in1 hv1 dL_law_317 ?_
  refine lv_aload_n hx hb dL_law_318 rfl (lv_at hl 3 rfl) ?_
  refine lv_iload_n hx hb dL_law_319 rfl (lv_at hl 0 rfl) ?_
  refine lv_iconst (v := (2 : Int32)) hx hb dL_law_320 (by decide) ?_
  refine lv_iadd hx hb dL_law_321 ?_
  refine l_sld Xg hX hbl hbA hS in2 hv2 dL_law_322 ?_
  refine lv_aload_n hx hb dL_law_323 rfl (lv_at hl 3 rfl) ?_
  refine lv_iload_n hx hb dL_law_324 rfl (lv_at hl 0 rfl) ?_
  refine lv_iconst (v := (3 : Int32)) hx hb dL_law_325 (by decide) ?_
  refine lv_iadd hx hb dL_law_326 ?_
  refine l_sld Xg hX hbl hbA hS in3 hv3 dL_law_327 ?_
  refine lv_aload_n hx hb dL_law_328 rfl (lv_at hl 3 rfl) ?_
  refine lv_iload_n hx hb dL_law_329 rfl (lv_at hl 0 rfl) ?_
  refine lv_iconst (v := (4 : Int32)) hx hb dL_law_330 (by decide) ?_
  refine lv_iadd hx hb dL_law_331 ?_
  refine l_sld Xg hX hbl hbA hS in4 hv4 dL_law_332 ?_
  refine lv_aload_n hx hb dL_law_333 rfl (lv_at hl 3 rfl) ?_
  refine lv_iload_n hx hb dL_law_334 rfl (lv_at hl 0 rfl) ?_
  refine lv_iconst (v := (5 : Int32)) hx hb dL_law_335 (by decide) ?_
  refine lv_iadd hx hb dL_law_336 ?_
  refine l_sld Xg hX hbl hbA hS in5 hv5 dL_law_337 ?_
  refine g_vi (rest := []) (G := bx B (wM B M)) Xg (hE0.1 M) (toX hP) hS (tcX8_copy l _ X _ _ _ _ _ f1) (g_cwV Xg gL_law_X8_copy rfl hdL_X8_copy ⟨(Nat.le_of_ble_eq_true rfl), (Nat.le_of_ble_eq_true rfl)⟩) (rcX_main (hE0.1 M) (toX hP)) rfl hl.1 rfl (Nat.le_of_ble_eq_true rfl) dL_law_338 hcs (fun H locs hP hS => ?_)
  have hP : va_P B.1 vwCl (wX B R.2 ++ wM B M) H := ofX hP
  refine lv_aload_n hx hb dL_law_341 rfl (lv_at hl 1 rfl) ?_
  refine lv_aload_n hx hb dL_law_342 rfl (lv_at hl 3 rfl) ?_
  refine lv_iload_n hx hb dL_law_343 rfl (lv_at hl 0 rfl) ?_
  refine lv_iconst (v := (1 : Int32)) hx hb dL_law_344 (by decide) ?_
  refine lv_iadd hx hb dL_law_345 ?_
  refine l_sld Xg hX hbl hbA hS in1 hv1 dL_law_346 ?_
  refine lv_aload_n hx hb dL_law_347 rfl (lv_at hl 3 rfl) ?_
  refine lv_iload_n hx hb dL_law_348 rfl (lv_at hl 0 rfl) ?_
  refine lv_iconst (v := (2 : Int32)) hx hb dL_law_349 (by decide) ?_
  refine lv_iadd hx hb dL_law_350 ?_
  refine l_sld Xg hX hbl hbA hS in2 hv2 dL_law_351 ?_
  refine lv_aload_n hx hb dL_law_352 rfl (lv_at hl 3 rfl) ?_
  refine lv_iload_n hx hb dL_law_353 rfl (lv_at hl 0 rfl) ?_
  refine lv_iconst (v := (3 : Int32)) hx hb dL_law_354 (by decide) ?_
  refine lv_iadd hx hb dL_law_355 ?_
  refine l_sld Xg hX hbl hbA hS in3 hv3 dL_law_356 ?_
  refine lv_aload_n hx hb dL_law_357 rfl (lv_at hl 3 rfl) ?_
  refine lv_iload_n hx hb dL_law_358 rfl (lv_at hl 0 rfl) ?_
  refine lv_iconst (v := (4 : Int32)) hx hb dL_law_359 (by decide) ?_
  refine lv_iadd hx hb dL_law_360 ?_
  refine l_sld Xg hX hbl hbA hS in4 hv4 dL_law_361 ?_
  refine lv_aload_n hx hb dL_law_362 rfl (lv_at hl 3 rfl) ?_
  refine lv_iload_n hx hb dL_law_363 rfl (lv_at hl 0 rfl) ?_
  refine lv_iconst (v := (5 : Int32)) hx hb dL_law_364 (by decide) ?_
  refine lv_iadd hx hb dL_law_365 ?_
  refine l_sld Xg hX hbl hbA hS in5 hv5 dL_law_366 ?_
  refine g_vi (rest := [.int R.1]) (G := bm B (wX B R.2)) Xg (hE0.2 R.2) (toM hP) hS (tcX9_copy l _ M _ _ _ _ _ f2) (g_cwV Xg gL_law_X9_copy rfl hdL_X9_copy ⟨(Nat.le_of_ble_eq_true rfl), (Nat.le_of_ble_eq_true rfl)⟩) (rcM_model (hE0.2 R.2) (toM hP)) rfl hl.1 rfl (Nat.le_of_ble_eq_true rfl) dL_law_367 hcs (fun H locs hP hS => ?_)
  have hP : va_P B.1 vwCl (wX B R.2 ++ wM B R'.2) H := ofM hP
  exact lv_icmp_eq (tgt := 1330) hx hb dL_law_370 (by decide) (fun _ => kk _ _ _ _ hR' hP hS) (fun c1 => absurd hE c1)
theorem hdL_X8_element : yX8_element.cls = RX8 ∧ yX8_element.cls ≠ "java/lang/invoke/MethodHandle" ∧ yX8_element.cls ≠ "java/lang/invoke/VarHandle" ∧ (parseMethodDescriptor yX8_element.desc).map (fun d => d.parameters.length) = some 2 := by decide +kernel
theorem hdL_X9_element : yX9_element.cls = RX9 ∧ yX9_element.cls ≠ "java/lang/invoke/MethodHandle" ∧ yX9_element.cls ≠ "java/lang/invoke/VarHandle" ∧ (parseMethodDescriptor yX9_element.desc).map (fun d => d.parameters.length) = some 2 := by decide +kernel
set_option maxHeartbeats 4000000 in
set_option maxRecDepth 20000 in
theorem law_c3 (Xg : GX p s m meth c #[Value.ref b] cL_law 4 ret wsL_law RL) (hE0 : LEv B s) (hX : va_X b L xs s s.heap) (hbl : b < s.heap.size) (hbA : ¬ lA B b) (hR : Rel X M) (hP : va_P B.1 vwCl (wX B X ++ wM B M) H) (hS : va_S (lA B) s.heap H locs) (hl : lv_has ls 4 [(3, .int (nI i)), (2, .ref (B.2.2.2.2.1 63)), (1, .ref (B.2.2.2.1 63)), (0, .ref b)]) (hcs : cells ≤ room_1.cells ∧ slots ≤ room_1.slots) {v1 : Int32} (in1 : vp_in (nI i + 1) L) (hv1 : xs (nI i + 1).toNatClampNeg = v1) {v2 : Int32} (in2 : vp_in (nI i + 2) L) (hv2 : xs (nI i + 2).toNatClampNeg = v2) (kk : ∀ (X' M' : GS) (H1 : Heap) (locs1 : List Loc), Rel X' M' → va_P B.1 vwCl (wX B X' ++ wM B M') H1 → va_S (lA B) s.heap H1 locs1 → W p l e room_1 s m #[Value.ref b] below meth c H1 locs1 cells slots Q (F0 m 1330 ls [])) : W p l e room_1 s m #[Value.ref b] below meth c H locs cells slots Q (F0 m 375 ls []) := by
  obtain ⟨hx, hb, -, -, hown, hts, -⟩ := id Xg
  obtain ⟨r, f1, f2⟩ := s_element hR (v1) (v2)
  refine lv_aload_n hx hb dL_law_375 rfl (lv_at hl 2 rfl) ?_
  refine lv_aload_n hx hb dL_law_376 rfl (lv_at hl 3 rfl) ?_
  refine lv_iload_n hx hb dL_law_377 rfl (lv_at hl 0 rfl) ?_
  refine lv_iconst (v := (1 : Int32)) hx hb dL_law_378 (by decide) ?_
  refine lv_iadd hx hb dL_law_379 ?_
  refine l_sld Xg hX hbl hbA hS in1 hv1 dL_law_380 ?_
  refine lv_aload_n hx hb dL_law_381 rfl (lv_at hl 3 rfl) ?_
  refine lv_iload_n hx hb dL_law_382 rfl (lv_at hl 0 rfl) ?_
  refine lv_iconst (v := (2 : Int32)) hx hb dL_law_383 (by decide) ?_
  refine lv_iadd hx hb dL_law_384 ?_
  refine l_sld Xg hX hbl hbA hS in2 hv2 dL_law_385 ?_
  refine g_vl (rest := []) (G := bx B (wM B M)) Xg (hE0.1 M) (toX hP) hS (tcX8_element l _ X _ _ f1) (g_cwV Xg gL_law_X8_element rfl hdL_X8_element ⟨(Nat.le_of_ble_eq_true rfl), (Nat.le_of_ble_eq_true rfl)⟩) (rcX_main (hE0.1 M) (toX hP)) rfl hl.1 rfl (Nat.le_of_ble_eq_true rfl) dL_law_386 hcs (fun H locs hP hS => ?_)
  have hP : va_P B.1 vwCl (wX B X ++ wM B M) H := ofX hP
  refine lv_aload_n hx hb dL_law_389 rfl (lv_at hl 1 rfl) ?_
  refine lv_aload_n hx hb dL_law_390 rfl (lv_at hl 3 rfl) ?_
  refine lv_iload_n hx hb dL_law_391 rfl (lv_at hl 0 rfl) ?_
  refine lv_iconst (v := (1 : Int32)) hx hb dL_law_392 (by decide) ?_
  refine lv_iadd hx hb dL_law_393 ?_
  refine l_sld Xg hX hbl hbA hS in1 hv1 dL_law_394 ?_
  refine lv_aload_n hx hb dL_law_395 rfl (lv_at hl 3 rfl) ?_
  refine lv_iload_n hx hb dL_law_396 rfl (lv_at hl 0 rfl) ?_
  refine lv_iconst (v := (2 : Int32)) hx hb dL_law_397 (by decide) ?_
  refine lv_iadd hx hb dL_law_398 ?_
  refine l_sld Xg hX hbl hbA hS in2 hv2 dL_law_399 ?_
  refine g_vl (rest := [.long r]) (G := bm B (wX B X)) Xg (hE0.2 X) (toM hP) hS (tcX9_element l _ M _ _ f2) (g_cwV Xg gL_law_X9_element rfl hdL_X9_element ⟨(Nat.le_of_ble_eq_true rfl), (Nat.le_of_ble_eq_true rfl)⟩) (rcM_model (hE0.2 X) (toM hP)) rfl hl.1 rfl (Nat.le_of_ble_eq_true rfl) dL_law_400 hcs (fun H locs hP hS => ?_)
  have hP : va_P B.1 vwCl (wX B X ++ wM B M) H := ofM hP
  refine W.lcmp hx hb dL_law_403 ?_
  exact lv_if_eq (tgt := 1330) hx hb dL_law_404 (by decide) (fun _ => kk _ _ _ _ hR hP hS) (fun c1 => absurd ((lg_cmp_eq r r).mpr rfl) c1)
theorem hdL_X8_show : yX8_show.cls = RX8 ∧ yX8_show.cls ≠ "java/lang/invoke/MethodHandle" ∧ yX8_show.cls ≠ "java/lang/invoke/VarHandle" ∧ (parseMethodDescriptor yX8_show.desc).map (fun d => d.parameters.length) = some 2 := by decide +kernel
theorem hdL_X9_show : yX9_show.cls = RX9 ∧ yX9_show.cls ≠ "java/lang/invoke/MethodHandle" ∧ yX9_show.cls ≠ "java/lang/invoke/VarHandle" ∧ (parseMethodDescriptor yX9_show.desc).map (fun d => d.parameters.length) = some 2 := by decide +kernel
set_option maxHeartbeats 4000000 in
set_option maxRecDepth 20000 in
theorem law_c4 (Xg : GX p s m meth c #[Value.ref b] cL_law 4 ret wsL_law RL) (hE0 : LEv B s) (hX : va_X b L xs s s.heap) (hbl : b < s.heap.size) (hbA : ¬ lA B b) (hR : Rel X M) (hP : va_P B.1 vwCl (wX B X ++ wM B M) H) (hS : va_S (lA B) s.heap H locs) (hl : lv_has ls 4 [(3, .int (nI i)), (2, .ref (B.2.2.2.2.1 63)), (1, .ref (B.2.2.2.1 63)), (0, .ref b)]) (hcs : cells ≤ room_1.cells ∧ slots ≤ room_1.slots) {v1 : Int32} (in1 : vp_in (nI i + 1) L) (hv1 : xs (nI i + 1).toNatClampNeg = v1) {v2 : Int32} (in2 : vp_in (nI i + 2) L) (hv2 : xs (nI i + 2).toNatClampNeg = v2) (kk : ∀ (X' M' : GS) (H1 : Heap) (locs1 : List Loc), Rel X' M' → va_P B.1 vwCl (wX B X' ++ wM B M') H1 → va_S (lA B) s.heap H1 locs1 → W p l e room_1 s m #[Value.ref b] below meth c H1 locs1 cells slots Q (F0 m 1330 ls [])) : W p l e room_1 s m #[Value.ref b] below meth c H locs cells slots Q (F0 m 409 ls []) := by
  obtain ⟨hx, hb, -, -, hown, hts, -⟩ := id Xg
  obtain ⟨R, R', f1, f2, hE, hR'⟩ := s_show hR (v1) (v2)
  refine lv_aload_n hx hb dL_law_409 rfl (lv_at hl 2 rfl) ?_
  refine lv_aload_n hx hb dL_law_410 rfl (lv_at hl 3 rfl) ?_
  refine lv_iload_n hx hb dL_law_411 rfl (lv_at hl 0 rfl) ?_
  refine lv_iconst (v := (1 : Int32)) hx hb dL_law_412 (by decide) ?_
  refine lv_iadd hx hb dL_law_413 ?_
  refine l_sld Xg hX hbl hbA hS in1 hv1 dL_law_414 ?_
  refine lv_aload_n hx hb dL_law_415 rfl (lv_at hl 3 rfl) ?_
  refine lv_iload_n hx hb dL_law_416 rfl (lv_at hl 0 rfl) ?_
  refine lv_iconst (v := (2 : Int32)) hx hb dL_law_417 (by decide) ?_
  refine lv_iadd hx hb dL_law_418 ?_
  refine l_sld Xg hX hbl hbA hS in2 hv2 dL_law_419 ?_
  refine g_vi (rest := []) (G := bx B (wM B M)) Xg (hE0.1 M) (toX hP) hS (tcX8_show l _ X _ _ f1) (g_cwV Xg gL_law_X8_show rfl hdL_X8_show ⟨(Nat.le_of_ble_eq_true rfl), (Nat.le_of_ble_eq_true rfl)⟩) (rcX_main (hE0.1 M) (toX hP)) rfl hl.1 rfl (Nat.le_of_ble_eq_true rfl) dL_law_420 hcs (fun H locs hP hS => ?_)
  have hP : va_P B.1 vwCl (wX B R.2 ++ wM B M) H := ofX hP
  refine lv_aload_n hx hb dL_law_423 rfl (lv_at hl 1 rfl) ?_
  refine lv_aload_n hx hb dL_law_424 rfl (lv_at hl 3 rfl) ?_
  refine lv_iload_n hx hb dL_law_425 rfl (lv_at hl 0 rfl) ?_
  refine lv_iconst (v := (1 : Int32)) hx hb dL_law_426 (by decide) ?_
  refine lv_iadd hx hb dL_law_427 ?_
  refine l_sld Xg hX hbl hbA hS in1 hv1 dL_law_428 ?_
  refine lv_aload_n hx hb dL_law_429 rfl (lv_at hl 3 rfl) ?_
  refine lv_iload_n hx hb dL_law_430 rfl (lv_at hl 0 rfl) ?_
  refine lv_iconst (v := (2 : Int32)) hx hb dL_law_431 (by decide) ?_
  refine lv_iadd hx hb dL_law_432 ?_
  refine l_sld Xg hX hbl hbA hS in2 hv2 dL_law_433 ?_
  refine g_vi (rest := [.int R.1]) (G := bm B (wX B R.2)) Xg (hE0.2 R.2) (toM hP) hS (tcX9_show l _ M _ _ f2) (g_cwV Xg gL_law_X9_show rfl hdL_X9_show ⟨(Nat.le_of_ble_eq_true rfl), (Nat.le_of_ble_eq_true rfl)⟩) (rcM_model (hE0.2 R.2) (toM hP)) rfl hl.1 rfl (Nat.le_of_ble_eq_true rfl) dL_law_434 hcs (fun H locs hP hS => ?_)
  have hP : va_P B.1 vwCl (wX B R.2 ++ wM B R'.2) H := ofM hP
  exact lv_icmp_eq (tgt := 1330) hx hb dL_law_437 (by decide) (fun _ => kk _ _ _ _ hR' hP hS) (fun c1 => absurd hE c1)
theorem hdL_X8_holds : yX8_holds.cls = RX8 ∧ yX8_holds.cls ≠ "java/lang/invoke/MethodHandle" ∧ yX8_holds.cls ≠ "java/lang/invoke/VarHandle" ∧ (parseMethodDescriptor yX8_holds.desc).map (fun d => d.parameters.length) = some 1 := by decide +kernel
theorem hdL_X9_holds : yX9_holds.cls = RX9 ∧ yX9_holds.cls ≠ "java/lang/invoke/MethodHandle" ∧ yX9_holds.cls ≠ "java/lang/invoke/VarHandle" ∧ (parseMethodDescriptor yX9_holds.desc).map (fun d => d.parameters.length) = some 1 := by decide +kernel
set_option maxHeartbeats 4000000 in
set_option maxRecDepth 20000 in
theorem law_c5 (Xg : GX p s m meth c #[Value.ref b] cL_law 4 ret wsL_law RL) (hE0 : LEv B s) (hX : va_X b L xs s s.heap) (hbl : b < s.heap.size) (hbA : ¬ lA B b) (hR : Rel X M) (hP : va_P B.1 vwCl (wX B X ++ wM B M) H) (hS : va_S (lA B) s.heap H locs) (hl : lv_has ls 4 [(3, .int (nI i)), (2, .ref (B.2.2.2.2.1 63)), (1, .ref (B.2.2.2.1 63)), (0, .ref b)]) (hcs : cells ≤ room_1.cells ∧ slots ≤ room_1.slots) {v1 : Int32} (in1 : vp_in (nI i + 1) L) (hv1 : xs (nI i + 1).toNatClampNeg = v1) (kk : ∀ (X' M' : GS) (H1 : Heap) (locs1 : List Loc), Rel X' M' → va_P B.1 vwCl (wX B X' ++ wM B M') H1 → va_S (lA B) s.heap H1 locs1 → W p l e room_1 s m #[Value.ref b] below meth c H1 locs1 cells slots Q (F0 m 1330 ls [])) : W p l e room_1 s m #[Value.ref b] below meth c H locs cells slots Q (F0 m 442 ls []) := by
  obtain ⟨hx, hb, -, -, hown, hts, -⟩ := id Xg
  obtain ⟨r, f1, f2⟩ := s_holds hR (v1)
  refine lv_aload_n hx hb dL_law_442 rfl (lv_at hl 2 rfl) ?_
  refine lv_aload_n hx hb dL_law_443 rfl (lv_at hl 3 rfl) ?_
  refine lv_iload_n hx hb dL_law_444 rfl (lv_at hl 0 rfl) ?_
  refine lv_iconst (v := (1 : Int32)) hx hb dL_law_445 (by decide) ?_
  refine lv_iadd hx hb dL_law_446 ?_
  refine l_sld Xg hX hbl hbA hS in1 hv1 dL_law_447 ?_
  refine g_vi (rest := []) (G := bx B (wM B M)) Xg (hE0.1 M) (toX hP) hS (tcX8_holds l _ X _ f1) (g_cwV Xg gL_law_X8_holds rfl hdL_X8_holds ⟨(Nat.le_of_ble_eq_true rfl), (Nat.le_of_ble_eq_true rfl)⟩) (rcX_main (hE0.1 M) (toX hP)) rfl hl.1 rfl (Nat.le_of_ble_eq_true rfl) dL_law_448 hcs (fun H locs hP hS => ?_)
  have hP : va_P B.1 vwCl (wX B X ++ wM B M) H := ofX hP
  refine lv_aload_n hx hb dL_law_451 rfl (lv_at hl 1 rfl) ?_
  refine lv_aload_n hx hb dL_law_452 rfl (lv_at hl 3 rfl) ?_
  refine lv_iload_n hx hb dL_law_453 rfl (lv_at hl 0 rfl) ?_
  refine lv_iconst (v := (1 : Int32)) hx hb dL_law_454 (by decide) ?_
  refine lv_iadd hx hb dL_law_455 ?_
  refine l_sld Xg hX hbl hbA hS in1 hv1 dL_law_456 ?_
  refine g_vi (rest := [.int r]) (G := bm B (wX B X)) Xg (hE0.2 X) (toM hP) hS (tcX9_holds l _ M _ f2) (g_cwV Xg gL_law_X9_holds rfl hdL_X9_holds ⟨(Nat.le_of_ble_eq_true rfl), (Nat.le_of_ble_eq_true rfl)⟩) (rcM_model (hE0.2 X) (toM hP)) rfl hl.1 rfl (Nat.le_of_ble_eq_true rfl) dL_law_457 hcs (fun H locs hP hS => ?_)
  have hP : va_P B.1 vwCl (wX B X ++ wM B M) H := ofM hP
  exact lv_icmp_eq (tgt := 1330) hx hb dL_law_460 (by decide) (fun _ => kk _ _ _ _ hR hP hS) (fun c1 => absurd rfl c1)
theorem hdL_X8_says : yX8_says.cls = RX8 ∧ yX8_says.cls ≠ "java/lang/invoke/MethodHandle" ∧ yX8_says.cls ≠ "java/lang/invoke/VarHandle" ∧ (parseMethodDescriptor yX8_says.desc).map (fun d => d.parameters.length) = some 2 := by decide +kernel
theorem hdL_X9_says : yX9_says.cls = RX9 ∧ yX9_says.cls ≠ "java/lang/invoke/MethodHandle" ∧ yX9_says.cls ≠ "java/lang/invoke/VarHandle" ∧ (parseMethodDescriptor yX9_says.desc).map (fun d => d.parameters.length) = some 2 := by decide +kernel
set_option maxHeartbeats 4000000 in
set_option maxRecDepth 20000 in
theorem law_c6 (Xg : GX p s m meth c #[Value.ref b] cL_law 4 ret wsL_law RL) (hE0 : LEv B s) (hX : va_X b L xs s s.heap) (hbl : b < s.heap.size) (hbA : ¬ lA B b) (hR : Rel X M) (hP : va_P B.1 vwCl (wX B X ++ wM B M) H) (hS : va_S (lA B) s.heap H locs) (hl : lv_has ls 4 [(3, .int (nI i)), (2, .ref (B.2.2.2.2.1 63)), (1, .ref (B.2.2.2.1 63)), (0, .ref b)]) (hcs : cells ≤ room_1.cells ∧ slots ≤ room_1.slots) {v1 : Int32} (in1 : vp_in (nI i + 1) L) (hv1 : xs (nI i + 1).toNatClampNeg = v1) {v2 : Int32} (in2 : vp_in (nI i + 2) L) (hv2 : xs (nI i + 2).toNatClampNeg = v2) (kk : ∀ (X' M' : GS) (H1 : Heap) (locs1 : List Loc), Rel X' M' → va_P B.1 vwCl (wX B X' ++ wM B M') H1 → va_S (lA B) s.heap H1 locs1 → W p l e room_1 s m #[Value.ref b] below meth c H1 locs1 cells slots Q (F0 m 1330 ls [])) : W p l e room_1 s m #[Value.ref b] below meth c H locs cells slots Q (F0 m 465 ls []) := by
  obtain ⟨hx, hb, -, -, hown, hts, -⟩ := id Xg
  obtain ⟨R, R', f1, f2, hE, hR'⟩ := s_says hR (v1) (v2)
  refine lv_aload_n hx hb dL_law_465 rfl (lv_at hl 2 rfl) ?_
  refine lv_aload_n hx hb dL_law_466 rfl (lv_at hl 3 rfl) ?_
  refine lv_iload_n hx hb dL_law_467 rfl (lv_at hl 0 rfl) ?_
  refine lv_iconst (v := (1 : Int32)) hx hb dL_law_468 (by decide) ?_
  refine lv_iadd hx hb dL_law_469 ?_
  refine l_sld Xg hX hbl hbA hS in1 hv1 dL_law_470 ?_
  refine lv_aload_n hx hb dL_law_471 rfl (lv_at hl 3 rfl) ?_
  refine lv_iload_n hx hb dL_law_472 rfl (lv_at hl 0 rfl) ?_
  refine lv_iconst (v := (2 : Int32)) hx hb dL_law_473 (by decide) ?_
  refine lv_iadd hx hb dL_law_474 ?_
  refine l_sld Xg hX hbl hbA hS in2 hv2 dL_law_475 ?_
  refine g_vi (rest := []) (G := bx B (wM B M)) Xg (hE0.1 M) (toX hP) hS (tcX8_says l _ X _ _ f1) (g_cwV Xg gL_law_X8_says rfl hdL_X8_says ⟨(Nat.le_of_ble_eq_true rfl), (Nat.le_of_ble_eq_true rfl)⟩) (rcX_main (hE0.1 M) (toX hP)) rfl hl.1 rfl (Nat.le_of_ble_eq_true rfl) dL_law_476 hcs (fun H locs hP hS => ?_)
  have hP : va_P B.1 vwCl (wX B R.2 ++ wM B M) H := ofX hP
  refine lv_aload_n hx hb dL_law_479 rfl (lv_at hl 1 rfl) ?_
  refine lv_aload_n hx hb dL_law_480 rfl (lv_at hl 3 rfl) ?_
  refine lv_iload_n hx hb dL_law_481 rfl (lv_at hl 0 rfl) ?_
  refine lv_iconst (v := (1 : Int32)) hx hb dL_law_482 (by decide) ?_
  refine lv_iadd hx hb dL_law_483 ?_
  refine l_sld Xg hX hbl hbA hS in1 hv1 dL_law_484 ?_
  refine lv_aload_n hx hb dL_law_485 rfl (lv_at hl 3 rfl) ?_
  refine lv_iload_n hx hb dL_law_486 rfl (lv_at hl 0 rfl) ?_
  refine lv_iconst (v := (2 : Int32)) hx hb dL_law_487 (by decide) ?_
  refine lv_iadd hx hb dL_law_488 ?_
  refine l_sld Xg hX hbl hbA hS in2 hv2 dL_law_489 ?_
  refine g_vi (rest := [.int R.1]) (G := bm B (wX B R.2)) Xg (hE0.2 R.2) (toM hP) hS (tcX9_says l _ M _ _ f2) (g_cwV Xg gL_law_X9_says rfl hdL_X9_says ⟨(Nat.le_of_ble_eq_true rfl), (Nat.le_of_ble_eq_true rfl)⟩) (rcM_model (hE0.2 R.2) (toM hP)) rfl hl.1 rfl (Nat.le_of_ble_eq_true rfl) dL_law_490 hcs (fun H locs hP hS => ?_)
  have hP : va_P B.1 vwCl (wX B R.2 ++ wM B R'.2) H := ofM hP
  exact lv_icmp_eq (tgt := 1330) hx hb dL_law_493 (by decide) (fun _ => kk _ _ _ _ hR' hP hS) (fun c1 => absurd hE c1)
theorem hdL_X8_setup : yX8_setup.cls = RX8 ∧ yX8_setup.cls ≠ "java/lang/invoke/MethodHandle" ∧ yX8_setup.cls ≠ "java/lang/invoke/VarHandle" ∧ (parseMethodDescriptor yX8_setup.desc).map (fun d => d.parameters.length) = some 6 := by decide +kernel
theorem hdL_X9_setup : yX9_setup.cls = RX9 ∧ yX9_setup.cls ≠ "java/lang/invoke/MethodHandle" ∧ yX9_setup.cls ≠ "java/lang/invoke/VarHandle" ∧ (parseMethodDescriptor yX9_setup.desc).map (fun d => d.parameters.length) = some 6 := by decide +kernel
set_option maxHeartbeats 4000000 in
set_option maxRecDepth 20000 in
theorem law_c7 (Xg : GX p s m meth c #[Value.ref b] cL_law 4 ret wsL_law RL) (hE0 : LEv B s) (hX : va_X b L xs s s.heap) (hbl : b < s.heap.size) (hbA : ¬ lA B b) (hR : Rel X M) (hP : va_P B.1 vwCl (wX B X ++ wM B M) H) (hS : va_S (lA B) s.heap H locs) (hl : lv_has ls 4 [(3, .int (nI i)), (2, .ref (B.2.2.2.2.1 63)), (1, .ref (B.2.2.2.1 63)), (0, .ref b)]) (hcs : cells ≤ room_1.cells ∧ slots ≤ room_1.slots) {v1 : Int32} (in1 : vp_in (nI i + 1) L) (hv1 : xs (nI i + 1).toNatClampNeg = v1) {v2 : Int32} (in2 : vp_in (nI i + 2) L) (hv2 : xs (nI i + 2).toNatClampNeg = v2) {v3 : Int32} (in3 : vp_in (nI i + 3) L) (hv3 : xs (nI i + 3).toNatClampNeg = v3) {v4 : Int32} (in4 : vp_in (nI i + 4) L) (hv4 : xs (nI i + 4).toNatClampNeg = v4) {v5 : Int32} (in5 : vp_in (nI i + 5) L) (hv5 : xs (nI i + 5).toNatClampNeg = v5) {v6 : Int32} (in6 : vp_in (nI i + 6) L) (hv6 : xs (nI i + 6).toNatClampNeg = v6) (kk : ∀ (X' M' : GS) (H1 : Heap) (locs1 : List Loc), Rel X' M' → va_P B.1 vwCl (wX B X' ++ wM B M') H1 → va_S (lA B) s.heap H1 locs1 → W p l e room_1 s m #[Value.ref b] below meth c H1 locs1 cells slots Q (F0 m 1330 ls [])) : W p l e room_1 s m #[Value.ref b] below meth c H locs cells slots Q (F0 m 498 ls []) := by
  obtain ⟨hx, hb, -, -, hown, hts, -⟩ := id Xg
  obtain ⟨R, R', f1, f2, hE, hR'⟩ := s_setup hR (v1) (v2) (v3) (v4) (v5) (v6)
  refine lv_aload_n hx hb dL_law_498 rfl (lv_at hl 2 rfl) ?_
  refine lv_aload_n hx hb dL_law_499 rfl (lv_at hl 3 rfl) ?_
  refine lv_iload_n hx hb dL_law_500 rfl (lv_at hl 0 rfl) ?_
  refine lv_iconst (v := (1 : Int32)) hx hb dL_law_501 (by decide) ?_
  refine lv_iadd hx hb dL_law_502 ?_
  refine l_sld Xg hX hbl hbA hS in1 hv1 dL_law_503 ?_
  refine lv_aload_n hx hb dL_law_504 rfl (lv_at hl 3 rfl) ?_
  refine lv_iload_n hx hb dL_law_505 rfl (lv_at hl 0 rfl) ?_
  refine lv_iconst (v := (2 : Int32)) hx hb dL_law_506 (by decide) ?_
  refine lv_iadd hx hb dL_law_507 ?_
  refine l_sld Xg hX hbl hbA hS in2 hv2 dL_law_508 ?_
  refine lv_aload_n hx hb dL_law_509 rfl (lv_at hl 3 rfl) ?_
  refine lv_iload_n hx hb dL_law_510 rfl (lv_at hl 0 rfl) ?_
  refine lv_iconst (v := (3 : Int32)) hx hb dL_law_511 (by decide) ?_
  refine lv_iadd hx hb dL_law_512 ?_
  refine l_sld Xg hX hbl hbA hS in3 hv3 dL_law_513 ?_
  refine lv_aload_n hx hb dL_law_514 rfl (lv_at hl 3 rfl) ?_
  refine lv_iload_n hx hb dL_law_515 rfl (lv_at hl 0 rfl) ?_
  refine lv_iconst (v := (4 : Int32)) hx hb dL_law_516 (by decide) ?_
  refine lv_iadd hx hb dL_law_517 ?_
  refine l_sld Xg hX hbl hbA hS in4 hv4 dL_law_518 ?_
  refine lv_aload_n hx hb dL_law_519 rfl (lv_at hl 3 rfl) ?_
  refine lv_iload_n hx hb dL_law_520 rfl (lv_at hl 0 rfl) ?_
  refine lv_iconst (v := (5 : Int32)) hx hb dL_law_521 (by decide) ?_
  refine lv_iadd hx hb dL_law_522 ?_
  refine l_sld Xg hX hbl hbA hS in5 hv5 dL_law_523 ?_
  refine lv_aload_n hx hb dL_law_524 rfl (lv_at hl 3 rfl) ?_
  refine lv_iload_n hx hb dL_law_525 rfl (lv_at hl 0 rfl) ?_
  refine lv_bipush (v := (6 : Int32)) hx hb dL_law_526 (by decide) ?_
  refine lv_iadd hx hb dL_law_528 ?_
  refine l_sld Xg hX hbl hbA hS in6 hv6 dL_law_529 ?_
  refine g_vi (rest := []) (G := bx B (wM B M)) Xg (hE0.1 M) (toX hP) hS (tcX8_setup l _ X _ _ _ _ _ _ f1) (g_cwV Xg gL_law_X8_setup rfl hdL_X8_setup ⟨(Nat.le_of_ble_eq_true rfl), (Nat.le_of_ble_eq_true rfl)⟩) (rcX_main (hE0.1 M) (toX hP)) rfl hl.1 rfl (Nat.le_of_ble_eq_true rfl) dL_law_530 hcs (fun H locs hP hS => ?_)
  have hP : va_P B.1 vwCl (wX B R.2 ++ wM B M) H := ofX hP
  refine lv_aload_n hx hb dL_law_533 rfl (lv_at hl 1 rfl) ?_
  refine lv_aload_n hx hb dL_law_534 rfl (lv_at hl 3 rfl) ?_
  refine lv_iload_n hx hb dL_law_535 rfl (lv_at hl 0 rfl) ?_
  refine lv_iconst (v := (1 : Int32)) hx hb dL_law_536 (by decide) ?_
  refine lv_iadd hx hb dL_law_537 ?_
  refine l_sld Xg hX hbl hbA hS in1 hv1 dL_law_538 ?_
  refine lv_aload_n hx hb dL_law_539 rfl (lv_at hl 3 rfl) ?_
  refine lv_iload_n hx hb dL_law_540 rfl (lv_at hl 0 rfl) ?_
  refine lv_iconst (v := (2 : Int32)) hx hb dL_law_541 (by decide) ?_
  refine lv_iadd hx hb dL_law_542 ?_
  refine l_sld Xg hX hbl hbA hS in2 hv2 dL_law_543 ?_
  refine lv_aload_n hx hb dL_law_544 rfl (lv_at hl 3 rfl) ?_
  refine lv_iload_n hx hb dL_law_545 rfl (lv_at hl 0 rfl) ?_
  refine lv_iconst (v := (3 : Int32)) hx hb dL_law_546 (by decide) ?_
  refine lv_iadd hx hb dL_law_547 ?_
  refine l_sld Xg hX hbl hbA hS in3 hv3 dL_law_548 ?_
  refine lv_aload_n hx hb dL_law_549 rfl (lv_at hl 3 rfl) ?_
  refine lv_iload_n hx hb dL_law_550 rfl (lv_at hl 0 rfl) ?_
  refine lv_iconst (v := (4 : Int32)) hx hb dL_law_551 (by decide) ?_
  refine lv_iadd hx hb dL_law_552 ?_
  refine l_sld Xg hX hbl hbA hS in4 hv4 dL_law_553 ?_
  refine lv_aload_n hx hb dL_law_554 rfl (lv_at hl 3 rfl) ?_
  refine lv_iload_n hx hb dL_law_555 rfl (lv_at hl 0 rfl) ?_
  refine lv_iconst (v := (5 : Int32)) hx hb dL_law_556 (by decide) ?_
  refine lv_iadd hx hb dL_law_557 ?_
  refine l_sld Xg hX hbl hbA hS in5 hv5 dL_law_558 ?_
  refine lv_aload_n hx hb dL_law_559 rfl (lv_at hl 3 rfl) ?_
  refine lv_iload_n hx hb dL_law_560 rfl (lv_at hl 0 rfl) ?_
  refine lv_bipush (v := (6 : Int32)) hx hb dL_law_561 (by decide) ?_
  refine lv_iadd hx hb dL_law_563 ?_
  refine l_sld Xg hX hbl hbA hS in6 hv6 dL_law_564 ?_
  refine g_vi (rest := [.int R.1]) (G := bm B (wX B R.2)) Xg (hE0.2 R.2) (toM hP) hS (tcX9_setup l _ M _ _ _ _ _ _ f2) (g_cwV Xg gL_law_X9_setup rfl hdL_X9_setup ⟨(Nat.le_of_ble_eq_true rfl), (Nat.le_of_ble_eq_true rfl)⟩) (rcM_model (hE0.2 R.2) (toM hP)) rfl hl.1 rfl (Nat.le_of_ble_eq_true rfl) dL_law_565 hcs (fun H locs hP hS => ?_)
  have hP : va_P B.1 vwCl (wX B R.2 ++ wM B R'.2) H := ofM hP
  exact lv_icmp_eq (tgt := 1330) hx hb dL_law_568 (by decide) (fun _ => kk _ _ _ _ hR' hP hS) (fun c1 => absurd hE c1)
theorem hdL_X8_setupOf : yX8_setupOf.cls = RX8 ∧ yX8_setupOf.cls ≠ "java/lang/invoke/MethodHandle" ∧ yX8_setupOf.cls ≠ "java/lang/invoke/VarHandle" ∧ (parseMethodDescriptor yX8_setupOf.desc).map (fun d => d.parameters.length) = some 2 := by decide +kernel
theorem hdL_X9_setupOf : yX9_setupOf.cls = RX9 ∧ yX9_setupOf.cls ≠ "java/lang/invoke/MethodHandle" ∧ yX9_setupOf.cls ≠ "java/lang/invoke/VarHandle" ∧ (parseMethodDescriptor yX9_setupOf.desc).map (fun d => d.parameters.length) = some 2 := by decide +kernel
set_option maxHeartbeats 4000000 in
set_option maxRecDepth 20000 in
theorem law_c8 (Xg : GX p s m meth c #[Value.ref b] cL_law 4 ret wsL_law RL) (hE0 : LEv B s) (hX : va_X b L xs s s.heap) (hbl : b < s.heap.size) (hbA : ¬ lA B b) (hR : Rel X M) (hP : va_P B.1 vwCl (wX B X ++ wM B M) H) (hS : va_S (lA B) s.heap H locs) (hl : lv_has ls 4 [(3, .int (nI i)), (2, .ref (B.2.2.2.2.1 63)), (1, .ref (B.2.2.2.1 63)), (0, .ref b)]) (hcs : cells ≤ room_1.cells ∧ slots ≤ room_1.slots) {v1 : Int32} (in1 : vp_in (nI i + 1) L) (hv1 : xs (nI i + 1).toNatClampNeg = v1) {v2 : Int32} (in2 : vp_in (nI i + 2) L) (hv2 : xs (nI i + 2).toNatClampNeg = v2) (kk : ∀ (X' M' : GS) (H1 : Heap) (locs1 : List Loc), Rel X' M' → va_P B.1 vwCl (wX B X' ++ wM B M') H1 → va_S (lA B) s.heap H1 locs1 → W p l e room_1 s m #[Value.ref b] below meth c H1 locs1 cells slots Q (F0 m 1330 ls [])) : W p l e room_1 s m #[Value.ref b] below meth c H locs cells slots Q (F0 m 573 ls []) := by
  obtain ⟨hx, hb, -, -, hown, hts, -⟩ := id Xg
  obtain ⟨R, R', f1, f2, hE, hR'⟩ := s_setupOf hR (v1) (v2)
  refine lv_aload_n hx hb dL_law_573 rfl (lv_at hl 2 rfl) ?_
  refine lv_aload_n hx hb dL_law_574 rfl (lv_at hl 3 rfl) ?_
  refine lv_iload_n hx hb dL_law_575 rfl (lv_at hl 0 rfl) ?_
  refine lv_iconst (v := (1 : Int32)) hx hb dL_law_576 (by decide) ?_
  refine lv_iadd hx hb dL_law_577 ?_
  refine l_sld Xg hX hbl hbA hS in1 hv1 dL_law_578 ?_
  refine lv_aload_n hx hb dL_law_579 rfl (lv_at hl 3 rfl) ?_
  refine lv_iload_n hx hb dL_law_580 rfl (lv_at hl 0 rfl) ?_
  refine lv_iconst (v := (2 : Int32)) hx hb dL_law_581 (by decide) ?_
  refine lv_iadd hx hb dL_law_582 ?_
  refine l_sld Xg hX hbl hbA hS in2 hv2 dL_law_583 ?_
  refine g_vi (rest := []) (G := bx B (wM B M)) Xg (hE0.1 M) (toX hP) hS (tcX8_setupOf l _ X _ _ f1) (g_cwV Xg gL_law_X8_setupOf rfl hdL_X8_setupOf ⟨(Nat.le_of_ble_eq_true rfl), (Nat.le_of_ble_eq_true rfl)⟩) (rcX_main (hE0.1 M) (toX hP)) rfl hl.1 rfl (Nat.le_of_ble_eq_true rfl) dL_law_584 hcs (fun H locs hP hS => ?_)
  have hP : va_P B.1 vwCl (wX B R.2 ++ wM B M) H := ofX hP
  refine lv_aload_n hx hb dL_law_587 rfl (lv_at hl 1 rfl) ?_
  refine lv_aload_n hx hb dL_law_588 rfl (lv_at hl 3 rfl) ?_
  refine lv_iload_n hx hb dL_law_589 rfl (lv_at hl 0 rfl) ?_
  refine lv_iconst (v := (1 : Int32)) hx hb dL_law_590 (by decide) ?_
  refine lv_iadd hx hb dL_law_591 ?_
  refine l_sld Xg hX hbl hbA hS in1 hv1 dL_law_592 ?_
  refine lv_aload_n hx hb dL_law_593 rfl (lv_at hl 3 rfl) ?_
  refine lv_iload_n hx hb dL_law_594 rfl (lv_at hl 0 rfl) ?_
  refine lv_iconst (v := (2 : Int32)) hx hb dL_law_595 (by decide) ?_
  refine lv_iadd hx hb dL_law_596 ?_
  refine l_sld Xg hX hbl hbA hS in2 hv2 dL_law_597 ?_
  refine g_vi (rest := [.int R.1]) (G := bm B (wX B R.2)) Xg (hE0.2 R.2) (toM hP) hS (tcX9_setupOf l _ M _ _ f2) (g_cwV Xg gL_law_X9_setupOf rfl hdL_X9_setupOf ⟨(Nat.le_of_ble_eq_true rfl), (Nat.le_of_ble_eq_true rfl)⟩) (rcM_model (hE0.2 R.2) (toM hP)) rfl hl.1 rfl (Nat.le_of_ble_eq_true rfl) dL_law_598 hcs (fun H locs hP hS => ?_)
  have hP : va_P B.1 vwCl (wX B R.2 ++ wM B R'.2) H := ofM hP
  exact lv_icmp_eq (tgt := 1330) hx hb dL_law_601 (by decide) (fun _ => kk _ _ _ _ hR' hP hS) (fun c1 => absurd hE c1)
theorem hdL_X8_tell : yX8_tell.cls = RX8 ∧ yX8_tell.cls ≠ "java/lang/invoke/MethodHandle" ∧ yX8_tell.cls ≠ "java/lang/invoke/VarHandle" ∧ (parseMethodDescriptor yX8_tell.desc).map (fun d => d.parameters.length) = some 3 := by decide +kernel
theorem hdL_X9_tell : yX9_tell.cls = RX9 ∧ yX9_tell.cls ≠ "java/lang/invoke/MethodHandle" ∧ yX9_tell.cls ≠ "java/lang/invoke/VarHandle" ∧ (parseMethodDescriptor yX9_tell.desc).map (fun d => d.parameters.length) = some 3 := by decide +kernel
set_option maxHeartbeats 4000000 in
set_option maxRecDepth 20000 in
theorem law_c9 (Xg : GX p s m meth c #[Value.ref b] cL_law 4 ret wsL_law RL) (hE0 : LEv B s) (hX : va_X b L xs s s.heap) (hbl : b < s.heap.size) (hbA : ¬ lA B b) (hR : Rel X M) (hP : va_P B.1 vwCl (wX B X ++ wM B M) H) (hS : va_S (lA B) s.heap H locs) (hl : lv_has ls 4 [(3, .int (nI i)), (2, .ref (B.2.2.2.2.1 63)), (1, .ref (B.2.2.2.1 63)), (0, .ref b)]) (hcs : cells ≤ room_1.cells ∧ slots ≤ room_1.slots) {v1 : Int32} (in1 : vp_in (nI i + 1) L) (hv1 : xs (nI i + 1).toNatClampNeg = v1) {v2 : Int32} (in2 : vp_in (nI i + 2) L) (hv2 : xs (nI i + 2).toNatClampNeg = v2) {v3 : Int32} (in3 : vp_in (nI i + 3) L) (hv3 : xs (nI i + 3).toNatClampNeg = v3) (kk : ∀ (X' M' : GS) (H1 : Heap) (locs1 : List Loc), Rel X' M' → va_P B.1 vwCl (wX B X' ++ wM B M') H1 → va_S (lA B) s.heap H1 locs1 → W p l e room_1 s m #[Value.ref b] below meth c H1 locs1 cells slots Q (F0 m 1330 ls [])) : W p l e room_1 s m #[Value.ref b] below meth c H locs cells slots Q (F0 m 606 ls []) := by
  obtain ⟨hx, hb, -, -, hown, hts, -⟩ := id Xg
  obtain ⟨R, R', f1, f2, hE, hR'⟩ := s_tell hR (v1) (v2) (v3)
  refine lv_aload_n hx hb dL_law_606 rfl (lv_at hl 2 rfl) ?_
  refine lv_aload_n hx hb dL_law_607 rfl (lv_at hl 3 rfl) ?_
  refine lv_iload_n hx hb dL_law_608 rfl (lv_at hl 0 rfl) ?_
  refine lv_iconst (v := (1 : Int32)) hx hb dL_law_609 (by decide) ?_
  refine lv_iadd hx hb dL_law_610 ?_
  refine l_sld Xg hX hbl hbA hS in1 hv1 dL_law_611 ?_
  refine lv_aload_n hx hb dL_law_612 rfl (lv_at hl 3 rfl) ?_
  refine lv_iload_n hx hb dL_law_613 rfl (lv_at hl 0 rfl) ?_
  refine lv_iconst (v := (2 : Int32)) hx hb dL_law_614 (by decide) ?_
  refine lv_iadd hx hb dL_law_615 ?_
  refine l_sld Xg hX hbl hbA hS in2 hv2 dL_law_616 ?_
  refine lv_aload_n hx hb dL_law_617 rfl (lv_at hl 3 rfl) ?_
  refine lv_iload_n hx hb dL_law_618 rfl (lv_at hl 0 rfl) ?_
  refine lv_iconst (v := (3 : Int32)) hx hb dL_law_619 (by decide) ?_
  refine lv_iadd hx hb dL_law_620 ?_
  refine l_sld Xg hX hbl hbA hS in3 hv3 dL_law_621 ?_
  refine g_vi (rest := []) (G := bx B (wM B M)) Xg (hE0.1 M) (toX hP) hS (tcX8_tell l _ X _ _ _ f1) (g_cwV Xg gL_law_X8_tell rfl hdL_X8_tell ⟨(Nat.le_of_ble_eq_true rfl), (Nat.le_of_ble_eq_true rfl)⟩) (rcX_main (hE0.1 M) (toX hP)) rfl hl.1 rfl (Nat.le_of_ble_eq_true rfl) dL_law_622 hcs (fun H locs hP hS => ?_)
  have hP : va_P B.1 vwCl (wX B R.2 ++ wM B M) H := ofX hP
  refine lv_aload_n hx hb dL_law_625 rfl (lv_at hl 1 rfl) ?_
  refine lv_aload_n hx hb dL_law_626 rfl (lv_at hl 3 rfl) ?_
  refine lv_iload_n hx hb dL_law_627 rfl (lv_at hl 0 rfl) ?_
  refine lv_iconst (v := (1 : Int32)) hx hb dL_law_628 (by decide) ?_
  refine lv_iadd hx hb dL_law_629 ?_
  refine l_sld Xg hX hbl hbA hS in1 hv1 dL_law_630 ?_
  refine lv_aload_n hx hb dL_law_631 rfl (lv_at hl 3 rfl) ?_
  refine lv_iload_n hx hb dL_law_632 rfl (lv_at hl 0 rfl) ?_
  refine lv_iconst (v := (2 : Int32)) hx hb dL_law_633 (by decide) ?_
  refine lv_iadd hx hb dL_law_634 ?_
  refine l_sld Xg hX hbl hbA hS in2 hv2 dL_law_635 ?_
  refine lv_aload_n hx hb dL_law_636 rfl (lv_at hl 3 rfl) ?_
  refine lv_iload_n hx hb dL_law_637 rfl (lv_at hl 0 rfl) ?_
  refine lv_iconst (v := (3 : Int32)) hx hb dL_law_638 (by decide) ?_
  refine lv_iadd hx hb dL_law_639 ?_
  refine l_sld Xg hX hbl hbA hS in3 hv3 dL_law_640 ?_
  refine g_vi (rest := [.int R.1]) (G := bm B (wX B R.2)) Xg (hE0.2 R.2) (toM hP) hS (tcX9_tell l _ M _ _ _ f2) (g_cwV Xg gL_law_X9_tell rfl hdL_X9_tell ⟨(Nat.le_of_ble_eq_true rfl), (Nat.le_of_ble_eq_true rfl)⟩) (rcM_model (hE0.2 R.2) (toM hP)) rfl hl.1 rfl (Nat.le_of_ble_eq_true rfl) dL_law_641 hcs (fun H locs hP hS => ?_)
  have hP : va_P B.1 vwCl (wX B R.2 ++ wM B R'.2) H := ofM hP
  exact lv_icmp_eq (tgt := 1330) hx hb dL_law_644 (by decide) (fun _ => kk _ _ _ _ hR' hP hS) (fun c1 => absurd hE c1)
theorem hdL_X8_ask : yX8_ask.cls = RX8 ∧ yX8_ask.cls ≠ "java/lang/invoke/MethodHandle" ∧ yX8_ask.cls ≠ "java/lang/invoke/VarHandle" ∧ (parseMethodDescriptor yX8_ask.desc).map (fun d => d.parameters.length) = some 2 := by decide +kernel
theorem hdL_X9_ask : yX9_ask.cls = RX9 ∧ yX9_ask.cls ≠ "java/lang/invoke/MethodHandle" ∧ yX9_ask.cls ≠ "java/lang/invoke/VarHandle" ∧ (parseMethodDescriptor yX9_ask.desc).map (fun d => d.parameters.length) = some 2 := by decide +kernel
set_option maxHeartbeats 4000000 in
set_option maxRecDepth 20000 in
theorem law_c10 (Xg : GX p s m meth c #[Value.ref b] cL_law 4 ret wsL_law RL) (hE0 : LEv B s) (hX : va_X b L xs s s.heap) (hbl : b < s.heap.size) (hbA : ¬ lA B b) (hR : Rel X M) (hP : va_P B.1 vwCl (wX B X ++ wM B M) H) (hS : va_S (lA B) s.heap H locs) (hl : lv_has ls 4 [(3, .int (nI i)), (2, .ref (B.2.2.2.2.1 63)), (1, .ref (B.2.2.2.1 63)), (0, .ref b)]) (hcs : cells ≤ room_1.cells ∧ slots ≤ room_1.slots) {v1 : Int32} (in1 : vp_in (nI i + 1) L) (hv1 : xs (nI i + 1).toNatClampNeg = v1) {v2 : Int32} (in2 : vp_in (nI i + 2) L) (hv2 : xs (nI i + 2).toNatClampNeg = v2) (kk : ∀ (X' M' : GS) (H1 : Heap) (locs1 : List Loc), Rel X' M' → va_P B.1 vwCl (wX B X' ++ wM B M') H1 → va_S (lA B) s.heap H1 locs1 → W p l e room_1 s m #[Value.ref b] below meth c H1 locs1 cells slots Q (F0 m 1330 ls [])) : W p l e room_1 s m #[Value.ref b] below meth c H locs cells slots Q (F0 m 649 ls []) := by
  obtain ⟨hx, hb, -, -, hown, hts, -⟩ := id Xg
  obtain ⟨R, R', f1, f2, hE, hR'⟩ := s_ask hR (v1) (v2)
  refine lv_aload_n hx hb dL_law_649 rfl (lv_at hl 2 rfl) ?_
  refine lv_aload_n hx hb dL_law_650 rfl (lv_at hl 3 rfl) ?_
  refine lv_iload_n hx hb dL_law_651 rfl (lv_at hl 0 rfl) ?_
  refine lv_iconst (v := (1 : Int32)) hx hb dL_law_652 (by decide) ?_
  refine lv_iadd hx hb dL_law_653 ?_
  refine l_sld Xg hX hbl hbA hS in1 hv1 dL_law_654 ?_
  refine lv_aload_n hx hb dL_law_655 rfl (lv_at hl 3 rfl) ?_
  refine lv_iload_n hx hb dL_law_656 rfl (lv_at hl 0 rfl) ?_
  refine lv_iconst (v := (2 : Int32)) hx hb dL_law_657 (by decide) ?_
  refine lv_iadd hx hb dL_law_658 ?_
  refine l_sld Xg hX hbl hbA hS in2 hv2 dL_law_659 ?_
  refine g_vi (rest := []) (G := bx B (wM B M)) Xg (hE0.1 M) (toX hP) hS (tcX8_ask l _ X _ _ f1) (g_cwV Xg gL_law_X8_ask rfl hdL_X8_ask ⟨(Nat.le_of_ble_eq_true rfl), (Nat.le_of_ble_eq_true rfl)⟩) (rcX_main (hE0.1 M) (toX hP)) rfl hl.1 rfl (Nat.le_of_ble_eq_true rfl) dL_law_660 hcs (fun H locs hP hS => ?_)
  have hP : va_P B.1 vwCl (wX B R.2 ++ wM B M) H := ofX hP
  refine lv_aload_n hx hb dL_law_663 rfl (lv_at hl 1 rfl) ?_
  refine lv_aload_n hx hb dL_law_664 rfl (lv_at hl 3 rfl) ?_
  refine lv_iload_n hx hb dL_law_665 rfl (lv_at hl 0 rfl) ?_
  refine lv_iconst (v := (1 : Int32)) hx hb dL_law_666 (by decide) ?_
  refine lv_iadd hx hb dL_law_667 ?_
  refine l_sld Xg hX hbl hbA hS in1 hv1 dL_law_668 ?_
  refine lv_aload_n hx hb dL_law_669 rfl (lv_at hl 3 rfl) ?_
  refine lv_iload_n hx hb dL_law_670 rfl (lv_at hl 0 rfl) ?_
  refine lv_iconst (v := (2 : Int32)) hx hb dL_law_671 (by decide) ?_
  refine lv_iadd hx hb dL_law_672 ?_
  refine l_sld Xg hX hbl hbA hS in2 hv2 dL_law_673 ?_
  refine g_vi (rest := [.int R.1]) (G := bm B (wX B R.2)) Xg (hE0.2 R.2) (toM hP) hS (tcX9_ask l _ M _ _ f2) (g_cwV Xg gL_law_X9_ask rfl hdL_X9_ask ⟨(Nat.le_of_ble_eq_true rfl), (Nat.le_of_ble_eq_true rfl)⟩) (rcM_model (hE0.2 R.2) (toM hP)) rfl hl.1 rfl (Nat.le_of_ble_eq_true rfl) dL_law_674 hcs (fun H locs hP hS => ?_)
  have hP : va_P B.1 vwCl (wX B R.2 ++ wM B R'.2) H := ofM hP
  exact lv_icmp_eq (tgt := 1330) hx hb dL_law_677 (by decide) (fun _ => kk _ _ _ _ hR' hP hS) (fun c1 => absurd hE c1)
theorem hdL_X8_loop : yX8_loop.cls = RX8 ∧ yX8_loop.cls ≠ "java/lang/invoke/MethodHandle" ∧ yX8_loop.cls ≠ "java/lang/invoke/VarHandle" ∧ (parseMethodDescriptor yX8_loop.desc).map (fun d => d.parameters.length) = some 1 := by decide +kernel
theorem hdL_X9_loop : yX9_loop.cls = RX9 ∧ yX9_loop.cls ≠ "java/lang/invoke/MethodHandle" ∧ yX9_loop.cls ≠ "java/lang/invoke/VarHandle" ∧ (parseMethodDescriptor yX9_loop.desc).map (fun d => d.parameters.length) = some 1 := by decide +kernel
set_option maxHeartbeats 4000000 in
set_option maxRecDepth 20000 in
theorem law_c11 (Xg : GX p s m meth c #[Value.ref b] cL_law 4 ret wsL_law RL) (hE0 : LEv B s) (hX : va_X b L xs s s.heap) (hbl : b < s.heap.size) (hbA : ¬ lA B b) (hR : Rel X M) (hP : va_P B.1 vwCl (wX B X ++ wM B M) H) (hS : va_S (lA B) s.heap H locs) (hl : lv_has ls 4 [(3, .int (nI i)), (2, .ref (B.2.2.2.2.1 63)), (1, .ref (B.2.2.2.1 63)), (0, .ref b)]) (hcs : cells ≤ room_1.cells ∧ slots ≤ room_1.slots) {v1 : Int32} (in1 : vp_in (nI i + 1) L) (hv1 : xs (nI i + 1).toNatClampNeg = v1) (kk : ∀ (X' M' : GS) (H1 : Heap) (locs1 : List Loc), Rel X' M' → va_P B.1 vwCl (wX B X' ++ wM B M') H1 → va_S (lA B) s.heap H1 locs1 → W p l e room_1 s m #[Value.ref b] below meth c H1 locs1 cells slots Q (F0 m 1330 ls [])) : W p l e room_1 s m #[Value.ref b] below meth c H locs cells slots Q (F0 m 682 ls []) := by
  obtain ⟨hx, hb, -, -, hown, hts, -⟩ := id Xg
  obtain ⟨R, R', f1, f2, hE, hR'⟩ := s_loop hR (v1)
  refine lv_aload_n hx hb dL_law_682 rfl (lv_at hl 2 rfl) ?_
  refine lv_aload_n hx hb dL_law_683 rfl (lv_at hl 3 rfl) ?_
  refine lv_iload_n hx hb dL_law_684 rfl (lv_at hl 0 rfl) ?_
  refine lv_iconst (v := (1 : Int32)) hx hb dL_law_685 (by decide) ?_
  refine lv_iadd hx hb dL_law_686 ?_
  refine l_sld Xg hX hbl hbA hS in1 hv1 dL_law_687 ?_
  refine g_vi (rest := []) (G := bx B (wM B M)) Xg (hE0.1 M) (toX hP) hS (tcX8_loop l _ X _ f1) (g_cwV Xg gL_law_X8_loop rfl hdL_X8_loop ⟨(Nat.le_of_ble_eq_true rfl), (Nat.le_of_ble_eq_true rfl)⟩) (rcX_main (hE0.1 M) (toX hP)) rfl hl.1 rfl (Nat.le_of_ble_eq_true rfl) dL_law_688 hcs (fun H locs hP hS => ?_)
  have hP : va_P B.1 vwCl (wX B R.2 ++ wM B M) H := ofX hP
  refine lv_aload_n hx hb dL_law_691 rfl (lv_at hl 1 rfl) ?_
  refine lv_aload_n hx hb dL_law_692 rfl (lv_at hl 3 rfl) ?_
  refine lv_iload_n hx hb dL_law_693 rfl (lv_at hl 0 rfl) ?_
  refine lv_iconst (v := (1 : Int32)) hx hb dL_law_694 (by decide) ?_
  refine lv_iadd hx hb dL_law_695 ?_
  refine l_sld Xg hX hbl hbA hS in1 hv1 dL_law_696 ?_
  refine g_vi (rest := [.int R.1]) (G := bm B (wX B R.2)) Xg (hE0.2 R.2) (toM hP) hS (tcX9_loop l _ M _ f2) (g_cwV Xg gL_law_X9_loop rfl hdL_X9_loop ⟨(Nat.le_of_ble_eq_true rfl), (Nat.le_of_ble_eq_true rfl)⟩) (rcM_model (hE0.2 R.2) (toM hP)) rfl hl.1 rfl (Nat.le_of_ble_eq_true rfl) dL_law_697 hcs (fun H locs hP hS => ?_)
  have hP : va_P B.1 vwCl (wX B R.2 ++ wM B R'.2) H := ofM hP
  exact lv_icmp_eq (tgt := 1330) hx hb dL_law_700 (by decide) (fun _ => kk _ _ _ _ hR' hP hS) (fun c1 => absurd hE c1)
theorem hdL_X8_fault : yX8_fault.cls = RX8 ∧ yX8_fault.cls ≠ "java/lang/invoke/MethodHandle" ∧ yX8_fault.cls ≠ "java/lang/invoke/VarHandle" ∧ (parseMethodDescriptor yX8_fault.desc).map (fun d => d.parameters.length) = some 0 := by decide +kernel
theorem hdL_X9_fault : yX9_fault.cls = RX9 ∧ yX9_fault.cls ≠ "java/lang/invoke/MethodHandle" ∧ yX9_fault.cls ≠ "java/lang/invoke/VarHandle" ∧ (parseMethodDescriptor yX9_fault.desc).map (fun d => d.parameters.length) = some 0 := by decide +kernel
set_option maxHeartbeats 4000000 in
set_option maxRecDepth 20000 in
theorem law_c12 (Xg : GX p s m meth c #[Value.ref b] cL_law 4 ret wsL_law RL) (hE0 : LEv B s) (hX : va_X b L xs s s.heap) (hbl : b < s.heap.size) (hbA : ¬ lA B b) (hR : Rel X M) (hP : va_P B.1 vwCl (wX B X ++ wM B M) H) (hS : va_S (lA B) s.heap H locs) (hl : lv_has ls 4 [(3, .int (nI i)), (2, .ref (B.2.2.2.2.1 63)), (1, .ref (B.2.2.2.1 63)), (0, .ref b)]) (hcs : cells ≤ room_1.cells ∧ slots ≤ room_1.slots)  (kk : ∀ (X' M' : GS) (H1 : Heap) (locs1 : List Loc), Rel X' M' → va_P B.1 vwCl (wX B X' ++ wM B M') H1 → va_S (lA B) s.heap H1 locs1 → W p l e room_1 s m #[Value.ref b] below meth c H1 locs1 cells slots Q (F0 m 1330 ls [])) : W p l e room_1 s m #[Value.ref b] below meth c H locs cells slots Q (F0 m 705 ls []) := by
  obtain ⟨hx, hb, -, -, hown, hts, -⟩ := id Xg
  obtain ⟨r, f1, f2⟩ := s_fault hR 
  refine lv_aload_n hx hb dL_law_705 rfl (lv_at hl 2 rfl) ?_
  refine g_vi (rest := []) (G := bx B (wM B M)) Xg (hE0.1 M) (toX hP) hS (tcX8_fault l _ X  f1) (g_cwV Xg gL_law_X8_fault rfl hdL_X8_fault ⟨(Nat.le_of_ble_eq_true rfl), (Nat.le_of_ble_eq_true rfl)⟩) (rcX_main (hE0.1 M) (toX hP)) rfl hl.1 rfl (Nat.le_of_ble_eq_true rfl) dL_law_706 hcs (fun H locs hP hS => ?_)
  have hP : va_P B.1 vwCl (wX B X ++ wM B M) H := ofX hP
  refine lv_aload_n hx hb dL_law_709 rfl (lv_at hl 1 rfl) ?_
  refine g_vi (rest := [.int r]) (G := bm B (wX B X)) Xg (hE0.2 X) (toM hP) hS (tcX9_fault l _ M  f2) (g_cwV Xg gL_law_X9_fault rfl hdL_X9_fault ⟨(Nat.le_of_ble_eq_true rfl), (Nat.le_of_ble_eq_true rfl)⟩) (rcM_model (hE0.2 X) (toM hP)) rfl hl.1 rfl (Nat.le_of_ble_eq_true rfl) dL_law_710 hcs (fun H locs hP hS => ?_)
  have hP : va_P B.1 vwCl (wX B X ++ wM B M) H := ofM hP
  exact lv_icmp_eq (tgt := 1330) hx hb dL_law_713 (by decide) (fun _ => kk _ _ _ _ hR hP hS) (fun c1 => absurd rfl c1)
theorem hdL_X8_height : yX8_height.cls = RX8 ∧ yX8_height.cls ≠ "java/lang/invoke/MethodHandle" ∧ yX8_height.cls ≠ "java/lang/invoke/VarHandle" ∧ (parseMethodDescriptor yX8_height.desc).map (fun d => d.parameters.length) = some 1 := by decide +kernel
theorem hdL_X9_height : yX9_height.cls = RX9 ∧ yX9_height.cls ≠ "java/lang/invoke/MethodHandle" ∧ yX9_height.cls ≠ "java/lang/invoke/VarHandle" ∧ (parseMethodDescriptor yX9_height.desc).map (fun d => d.parameters.length) = some 1 := by decide +kernel
set_option maxHeartbeats 4000000 in
set_option maxRecDepth 20000 in
theorem law_c13 (Xg : GX p s m meth c #[Value.ref b] cL_law 4 ret wsL_law RL) (hE0 : LEv B s) (hX : va_X b L xs s s.heap) (hbl : b < s.heap.size) (hbA : ¬ lA B b) (hR : Rel X M) (hP : va_P B.1 vwCl (wX B X ++ wM B M) H) (hS : va_S (lA B) s.heap H locs) (hl : lv_has ls 4 [(3, .int (nI i)), (2, .ref (B.2.2.2.2.1 63)), (1, .ref (B.2.2.2.1 63)), (0, .ref b)]) (hcs : cells ≤ room_1.cells ∧ slots ≤ room_1.slots) {v1 : Int32} (in1 : vp_in (nI i + 1) L) (hv1 : xs (nI i + 1).toNatClampNeg = v1) (kk : ∀ (X' M' : GS) (H1 : Heap) (locs1 : List Loc), Rel X' M' → va_P B.1 vwCl (wX B X' ++ wM B M') H1 → va_S (lA B) s.heap H1 locs1 → W p l e room_1 s m #[Value.ref b] below meth c H1 locs1 cells slots Q (F0 m 1330 ls [])) : W p l e room_1 s m #[Value.ref b] below meth c H locs cells slots Q (F0 m 718 ls []) := by
  obtain ⟨hx, hb, -, -, hown, hts, -⟩ := id Xg
  obtain ⟨R, R', f1, f2, hE, hR'⟩ := s_height hR (v1)
  refine lv_aload_n hx hb dL_law_718 rfl (lv_at hl 2 rfl) ?_
  refine lv_aload_n hx hb dL_law_719 rfl (lv_at hl 3 rfl) ?_
  refine lv_iload_n hx hb dL_law_720 rfl (lv_at hl 0 rfl) ?_
  refine lv_iconst (v := (1 : Int32)) hx hb dL_law_721 (by decide) ?_
  refine lv_iadd hx hb dL_law_722 ?_
  refine l_sld Xg hX hbl hbA hS in1 hv1 dL_law_723 ?_
  refine g_vi (rest := []) (G := bx B (wM B M)) Xg (hE0.1 M) (toX hP) hS (tcX8_height l _ X _ f1) (g_cwV Xg gL_law_X8_height rfl hdL_X8_height ⟨(Nat.le_of_ble_eq_true rfl), (Nat.le_of_ble_eq_true rfl)⟩) (rcX_main (hE0.1 M) (toX hP)) rfl hl.1 rfl (Nat.le_of_ble_eq_true rfl) dL_law_724 hcs (fun H locs hP hS => ?_)
  have hP : va_P B.1 vwCl (wX B R.2 ++ wM B M) H := ofX hP
  refine lv_aload_n hx hb dL_law_727 rfl (lv_at hl 1 rfl) ?_
  refine lv_aload_n hx hb dL_law_728 rfl (lv_at hl 3 rfl) ?_
  refine lv_iload_n hx hb dL_law_729 rfl (lv_at hl 0 rfl) ?_
  refine lv_iconst (v := (1 : Int32)) hx hb dL_law_730 (by decide) ?_
  refine lv_iadd hx hb dL_law_731 ?_
  refine l_sld Xg hX hbl hbA hS in1 hv1 dL_law_732 ?_
  refine g_vi (rest := [.int R.1]) (G := bm B (wX B R.2)) Xg (hE0.2 R.2) (toM hP) hS (tcX9_height l _ M _ f2) (g_cwV Xg gL_law_X9_height rfl hdL_X9_height ⟨(Nat.le_of_ble_eq_true rfl), (Nat.le_of_ble_eq_true rfl)⟩) (rcM_model (hE0.2 R.2) (toM hP)) rfl hl.1 rfl (Nat.le_of_ble_eq_true rfl) dL_law_733 hcs (fun H locs hP hS => ?_)
  have hP : va_P B.1 vwCl (wX B R.2 ++ wM B R'.2) H := ofM hP
  exact lv_icmp_eq (tgt := 1330) hx hb dL_law_736 (by decide) (fun _ => kk _ _ _ _ hR' hP hS) (fun c1 => absurd hE c1)
theorem hdL_X8_off : yX8_off.cls = RX8 ∧ yX8_off.cls ≠ "java/lang/invoke/MethodHandle" ∧ yX8_off.cls ≠ "java/lang/invoke/VarHandle" ∧ (parseMethodDescriptor yX8_off.desc).map (fun d => d.parameters.length) = some 1 := by decide +kernel
theorem hdL_X9_off : yX9_off.cls = RX9 ∧ yX9_off.cls ≠ "java/lang/invoke/MethodHandle" ∧ yX9_off.cls ≠ "java/lang/invoke/VarHandle" ∧ (parseMethodDescriptor yX9_off.desc).map (fun d => d.parameters.length) = some 1 := by decide +kernel
set_option maxHeartbeats 4000000 in
set_option maxRecDepth 20000 in
theorem law_c14 (Xg : GX p s m meth c #[Value.ref b] cL_law 4 ret wsL_law RL) (hE0 : LEv B s) (hX : va_X b L xs s s.heap) (hbl : b < s.heap.size) (hbA : ¬ lA B b) (hR : Rel X M) (hP : va_P B.1 vwCl (wX B X ++ wM B M) H) (hS : va_S (lA B) s.heap H locs) (hl : lv_has ls 4 [(3, .int (nI i)), (2, .ref (B.2.2.2.2.1 63)), (1, .ref (B.2.2.2.1 63)), (0, .ref b)]) (hcs : cells ≤ room_1.cells ∧ slots ≤ room_1.slots) {v1 : Int32} (in1 : vp_in (nI i + 1) L) (hv1 : xs (nI i + 1).toNatClampNeg = v1) (kk : ∀ (X' M' : GS) (H1 : Heap) (locs1 : List Loc), Rel X' M' → va_P B.1 vwCl (wX B X' ++ wM B M') H1 → va_S (lA B) s.heap H1 locs1 → W p l e room_1 s m #[Value.ref b] below meth c H1 locs1 cells slots Q (F0 m 1330 ls [])) : W p l e room_1 s m #[Value.ref b] below meth c H locs cells slots Q (F0 m 741 ls []) := by
  obtain ⟨hx, hb, -, -, hown, hts, -⟩ := id Xg
  obtain ⟨R, R', f1, f2, hE, hR'⟩ := s_off hR (v1)
  refine lv_aload_n hx hb dL_law_741 rfl (lv_at hl 2 rfl) ?_
  refine lv_aload_n hx hb dL_law_742 rfl (lv_at hl 3 rfl) ?_
  refine lv_iload_n hx hb dL_law_743 rfl (lv_at hl 0 rfl) ?_
  refine lv_iconst (v := (1 : Int32)) hx hb dL_law_744 (by decide) ?_
  refine lv_iadd hx hb dL_law_745 ?_
  refine l_sld Xg hX hbl hbA hS in1 hv1 dL_law_746 ?_
  refine g_vi (rest := []) (G := bx B (wM B M)) Xg (hE0.1 M) (toX hP) hS (tcX8_off l _ X _ f1) (g_cwV Xg gL_law_X8_off rfl hdL_X8_off ⟨(Nat.le_of_ble_eq_true rfl), (Nat.le_of_ble_eq_true rfl)⟩) (rcX_main (hE0.1 M) (toX hP)) rfl hl.1 rfl (Nat.le_of_ble_eq_true rfl) dL_law_747 hcs (fun H locs hP hS => ?_)
  have hP : va_P B.1 vwCl (wX B R.2 ++ wM B M) H := ofX hP
  refine lv_aload_n hx hb dL_law_750 rfl (lv_at hl 1 rfl) ?_
  refine lv_aload_n hx hb dL_law_751 rfl (lv_at hl 3 rfl) ?_
  refine lv_iload_n hx hb dL_law_752 rfl (lv_at hl 0 rfl) ?_
  refine lv_iconst (v := (1 : Int32)) hx hb dL_law_753 (by decide) ?_
  refine lv_iadd hx hb dL_law_754 ?_
  refine l_sld Xg hX hbl hbA hS in1 hv1 dL_law_755 ?_
  refine g_vi (rest := [.int R.1]) (G := bm B (wX B R.2)) Xg (hE0.2 R.2) (toM hP) hS (tcX9_off l _ M _ f2) (g_cwV Xg gL_law_X9_off rfl hdL_X9_off ⟨(Nat.le_of_ble_eq_true rfl), (Nat.le_of_ble_eq_true rfl)⟩) (rcM_model (hE0.2 R.2) (toM hP)) rfl hl.1 rfl (Nat.le_of_ble_eq_true rfl) dL_law_756 hcs (fun H locs hP hS => ?_)
  have hP : va_P B.1 vwCl (wX B R.2 ++ wM B R'.2) H := ofM hP
  exact lv_icmp_eq (tgt := 1330) hx hb dL_law_759 (by decide) (fun _ => kk _ _ _ _ hR' hP hS) (fun c1 => absurd hE c1)
theorem hdL_X8_spread : yX8_spread.cls = RX8 ∧ yX8_spread.cls ≠ "java/lang/invoke/MethodHandle" ∧ yX8_spread.cls ≠ "java/lang/invoke/VarHandle" ∧ (parseMethodDescriptor yX8_spread.desc).map (fun d => d.parameters.length) = some 2 := by decide +kernel
theorem hdL_X9_spread : yX9_spread.cls = RX9 ∧ yX9_spread.cls ≠ "java/lang/invoke/MethodHandle" ∧ yX9_spread.cls ≠ "java/lang/invoke/VarHandle" ∧ (parseMethodDescriptor yX9_spread.desc).map (fun d => d.parameters.length) = some 2 := by decide +kernel
set_option maxHeartbeats 4000000 in
set_option maxRecDepth 20000 in
theorem law_c15 (Xg : GX p s m meth c #[Value.ref b] cL_law 4 ret wsL_law RL) (hE0 : LEv B s) (hX : va_X b L xs s s.heap) (hbl : b < s.heap.size) (hbA : ¬ lA B b) (hR : Rel X M) (hP : va_P B.1 vwCl (wX B X ++ wM B M) H) (hS : va_S (lA B) s.heap H locs) (hl : lv_has ls 4 [(3, .int (nI i)), (2, .ref (B.2.2.2.2.1 63)), (1, .ref (B.2.2.2.1 63)), (0, .ref b)]) (hcs : cells ≤ room_1.cells ∧ slots ≤ room_1.slots) {v1 : Int32} (in1 : vp_in (nI i + 1) L) (hv1 : xs (nI i + 1).toNatClampNeg = v1) {v2 : Int32} (in2 : vp_in (nI i + 2) L) (hv2 : xs (nI i + 2).toNatClampNeg = v2) (kk : ∀ (X' M' : GS) (H1 : Heap) (locs1 : List Loc), Rel X' M' → va_P B.1 vwCl (wX B X' ++ wM B M') H1 → va_S (lA B) s.heap H1 locs1 → W p l e room_1 s m #[Value.ref b] below meth c H1 locs1 cells slots Q (F0 m 1330 ls [])) : W p l e room_1 s m #[Value.ref b] below meth c H locs cells slots Q (F0 m 764 ls []) := by
  obtain ⟨hx, hb, -, -, hown, hts, -⟩ := id Xg
  obtain ⟨R, R', f1, f2, hE, hR'⟩ := s_spread hR (v1) (v2)
  refine lv_aload_n hx hb dL_law_764 rfl (lv_at hl 2 rfl) ?_
  refine lv_aload_n hx hb dL_law_765 rfl (lv_at hl 3 rfl) ?_
  refine lv_iload_n hx hb dL_law_766 rfl (lv_at hl 0 rfl) ?_
  refine lv_iconst (v := (1 : Int32)) hx hb dL_law_767 (by decide) ?_
  refine lv_iadd hx hb dL_law_768 ?_
  refine l_sld Xg hX hbl hbA hS in1 hv1 dL_law_769 ?_
  refine lv_aload_n hx hb dL_law_770 rfl (lv_at hl 3 rfl) ?_
  refine lv_iload_n hx hb dL_law_771 rfl (lv_at hl 0 rfl) ?_
  refine lv_iconst (v := (2 : Int32)) hx hb dL_law_772 (by decide) ?_
  refine lv_iadd hx hb dL_law_773 ?_
  refine l_sld Xg hX hbl hbA hS in2 hv2 dL_law_774 ?_
  refine g_vi (rest := []) (G := bx B (wM B M)) Xg (hE0.1 M) (toX hP) hS (tcX8_spread l _ X _ _ f1) (g_cwV Xg gL_law_X8_spread rfl hdL_X8_spread ⟨(Nat.le_of_ble_eq_true rfl), (Nat.le_of_ble_eq_true rfl)⟩) (rcX_main (hE0.1 M) (toX hP)) rfl hl.1 rfl (Nat.le_of_ble_eq_true rfl) dL_law_775 hcs (fun H locs hP hS => ?_)
  have hP : va_P B.1 vwCl (wX B R.2 ++ wM B M) H := ofX hP
  refine lv_aload_n hx hb dL_law_778 rfl (lv_at hl 1 rfl) ?_
  refine lv_aload_n hx hb dL_law_779 rfl (lv_at hl 3 rfl) ?_
  refine lv_iload_n hx hb dL_law_780 rfl (lv_at hl 0 rfl) ?_
  refine lv_iconst (v := (1 : Int32)) hx hb dL_law_781 (by decide) ?_
  refine lv_iadd hx hb dL_law_782 ?_
  refine l_sld Xg hX hbl hbA hS in1 hv1 dL_law_783 ?_
  refine lv_aload_n hx hb dL_law_784 rfl (lv_at hl 3 rfl) ?_
  refine lv_iload_n hx hb dL_law_785 rfl (lv_at hl 0 rfl) ?_
  refine lv_iconst (v := (2 : Int32)) hx hb dL_law_786 (by decide) ?_
  refine lv_iadd hx hb dL_law_787 ?_
  refine l_sld Xg hX hbl hbA hS in2 hv2 dL_law_788 ?_
  refine g_vi (rest := [.int R.1]) (G := bm B (wX B R.2)) Xg (hE0.2 R.2) (toM hP) hS (tcX9_spread l _ M _ _ f2) (g_cwV Xg gL_law_X9_spread rfl hdL_X9_spread ⟨(Nat.le_of_ble_eq_true rfl), (Nat.le_of_ble_eq_true rfl)⟩) (rcM_model (hE0.2 R.2) (toM hP)) rfl hl.1 rfl (Nat.le_of_ble_eq_true rfl) dL_law_789 hcs (fun H locs hP hS => ?_)
  have hP : va_P B.1 vwCl (wX B R.2 ++ wM B R'.2) H := ofM hP
  exact lv_icmp_eq (tgt := 1330) hx hb dL_law_792 (by decide) (fun _ => kk _ _ _ _ hR' hP hS) (fun c1 => absurd hE c1)
theorem hdL_X8_big : yX8_big.cls = RX8 ∧ yX8_big.cls ≠ "java/lang/invoke/MethodHandle" ∧ yX8_big.cls ≠ "java/lang/invoke/VarHandle" ∧ (parseMethodDescriptor yX8_big.desc).map (fun d => d.parameters.length) = some 1 := by decide +kernel
theorem hdL_X9_big : yX9_big.cls = RX9 ∧ yX9_big.cls ≠ "java/lang/invoke/MethodHandle" ∧ yX9_big.cls ≠ "java/lang/invoke/VarHandle" ∧ (parseMethodDescriptor yX9_big.desc).map (fun d => d.parameters.length) = some 1 := by decide +kernel
set_option maxHeartbeats 4000000 in
set_option maxRecDepth 20000 in
theorem law_c16 (Xg : GX p s m meth c #[Value.ref b] cL_law 4 ret wsL_law RL) (hE0 : LEv B s) (hX : va_X b L xs s s.heap) (hbl : b < s.heap.size) (hbA : ¬ lA B b) (hR : Rel X M) (hP : va_P B.1 vwCl (wX B X ++ wM B M) H) (hS : va_S (lA B) s.heap H locs) (hl : lv_has ls 4 [(3, .int (nI i)), (2, .ref (B.2.2.2.2.1 63)), (1, .ref (B.2.2.2.1 63)), (0, .ref b)]) (hcs : cells ≤ room_1.cells ∧ slots ≤ room_1.slots) {v1 : Int32} (in1 : vp_in (nI i + 1) L) (hv1 : xs (nI i + 1).toNatClampNeg = v1) (kk : ∀ (X' M' : GS) (H1 : Heap) (locs1 : List Loc), Rel X' M' → va_P B.1 vwCl (wX B X' ++ wM B M') H1 → va_S (lA B) s.heap H1 locs1 → W p l e room_1 s m #[Value.ref b] below meth c H1 locs1 cells slots Q (F0 m 1330 ls [])) : W p l e room_1 s m #[Value.ref b] below meth c H locs cells slots Q (F0 m 797 ls []) := by
  obtain ⟨hx, hb, -, -, hown, hts, -⟩ := id Xg
  obtain ⟨R, R', f1, f2, hE, hR'⟩ := s_big hR (v1)
  refine lv_aload_n hx hb dL_law_797 rfl (lv_at hl 2 rfl) ?_
  refine lv_aload_n hx hb dL_law_798 rfl (lv_at hl 3 rfl) ?_
  refine lv_iload_n hx hb dL_law_799 rfl (lv_at hl 0 rfl) ?_
  refine lv_iconst (v := (1 : Int32)) hx hb dL_law_800 (by decide) ?_
  refine lv_iadd hx hb dL_law_801 ?_
  refine l_sld Xg hX hbl hbA hS in1 hv1 dL_law_802 ?_
  refine g_vi (rest := []) (G := bx B (wM B M)) Xg (hE0.1 M) (toX hP) hS (tcX8_big l _ X _ f1) (g_cwV Xg gL_law_X8_big rfl hdL_X8_big ⟨(Nat.le_of_ble_eq_true rfl), (Nat.le_of_ble_eq_true rfl)⟩) (rcX_main (hE0.1 M) (toX hP)) rfl hl.1 rfl (Nat.le_of_ble_eq_true rfl) dL_law_803 hcs (fun H locs hP hS => ?_)
  have hP : va_P B.1 vwCl (wX B R.2 ++ wM B M) H := ofX hP
  refine lv_aload_n hx hb dL_law_806 rfl (lv_at hl 1 rfl) ?_
  refine lv_aload_n hx hb dL_law_807 rfl (lv_at hl 3 rfl) ?_
  refine lv_iload_n hx hb dL_law_808 rfl (lv_at hl 0 rfl) ?_
  refine lv_iconst (v := (1 : Int32)) hx hb dL_law_809 (by decide) ?_
  refine lv_iadd hx hb dL_law_810 ?_
  refine l_sld Xg hX hbl hbA hS in1 hv1 dL_law_811 ?_
  refine g_vi (rest := [.int R.1]) (G := bm B (wX B R.2)) Xg (hE0.2 R.2) (toM hP) hS (tcX9_big l _ M _ f2) (g_cwV Xg gL_law_X9_big rfl hdL_X9_big ⟨(Nat.le_of_ble_eq_true rfl), (Nat.le_of_ble_eq_true rfl)⟩) (rcM_model (hE0.2 R.2) (toM hP)) rfl hl.1 rfl (Nat.le_of_ble_eq_true rfl) dL_law_812 hcs (fun H locs hP hS => ?_)
  have hP : va_P B.1 vwCl (wX B R.2 ++ wM B R'.2) H := ofM hP
  exact lv_icmp_eq (tgt := 1330) hx hb dL_law_815 (by decide) (fun _ => kk _ _ _ _ hR' hP hS) (fun c1 => absurd hE c1)
theorem hdL_X8_parts : yX8_parts.cls = RX8 ∧ yX8_parts.cls ≠ "java/lang/invoke/MethodHandle" ∧ yX8_parts.cls ≠ "java/lang/invoke/VarHandle" ∧ (parseMethodDescriptor yX8_parts.desc).map (fun d => d.parameters.length) = some 2 := by decide +kernel
theorem hdL_X9_parts : yX9_parts.cls = RX9 ∧ yX9_parts.cls ≠ "java/lang/invoke/MethodHandle" ∧ yX9_parts.cls ≠ "java/lang/invoke/VarHandle" ∧ (parseMethodDescriptor yX9_parts.desc).map (fun d => d.parameters.length) = some 2 := by decide +kernel
set_option maxHeartbeats 4000000 in
set_option maxRecDepth 20000 in
theorem law_c17 (Xg : GX p s m meth c #[Value.ref b] cL_law 4 ret wsL_law RL) (hE0 : LEv B s) (hX : va_X b L xs s s.heap) (hbl : b < s.heap.size) (hbA : ¬ lA B b) (hR : Rel X M) (hP : va_P B.1 vwCl (wX B X ++ wM B M) H) (hS : va_S (lA B) s.heap H locs) (hl : lv_has ls 4 [(3, .int (nI i)), (2, .ref (B.2.2.2.2.1 63)), (1, .ref (B.2.2.2.1 63)), (0, .ref b)]) (hcs : cells ≤ room_1.cells ∧ slots ≤ room_1.slots) {v1 : Int32} (in1 : vp_in (nI i + 1) L) (hv1 : xs (nI i + 1).toNatClampNeg = v1) {v2 : Int32} (in2 : vp_in (nI i + 2) L) (hv2 : xs (nI i + 2).toNatClampNeg = v2) (kk : ∀ (X' M' : GS) (H1 : Heap) (locs1 : List Loc), Rel X' M' → va_P B.1 vwCl (wX B X' ++ wM B M') H1 → va_S (lA B) s.heap H1 locs1 → W p l e room_1 s m #[Value.ref b] below meth c H1 locs1 cells slots Q (F0 m 1330 ls [])) : W p l e room_1 s m #[Value.ref b] below meth c H locs cells slots Q (F0 m 820 ls []) := by
  obtain ⟨hx, hb, -, -, hown, hts, -⟩ := id Xg
  obtain ⟨R, R', f1, f2, hE, hR'⟩ := s_parts hR (v1) (v2)
  refine lv_aload_n hx hb dL_law_820 rfl (lv_at hl 2 rfl) ?_
  refine lv_aload_n hx hb dL_law_821 rfl (lv_at hl 3 rfl) ?_
  refine lv_iload_n hx hb dL_law_822 rfl (lv_at hl 0 rfl) ?_
  refine lv_iconst (v := (1 : Int32)) hx hb dL_law_823 (by decide) ?_
  refine lv_iadd hx hb dL_law_824 ?_
  refine l_sld Xg hX hbl hbA hS in1 hv1 dL_law_825 ?_
  refine lv_aload_n hx hb dL_law_826 rfl (lv_at hl 3 rfl) ?_
  refine lv_iload_n hx hb dL_law_827 rfl (lv_at hl 0 rfl) ?_
  refine lv_iconst (v := (2 : Int32)) hx hb dL_law_828 (by decide) ?_
  refine lv_iadd hx hb dL_law_829 ?_
  refine l_sld Xg hX hbl hbA hS in2 hv2 dL_law_830 ?_
  refine g_vi (rest := []) (G := bx B (wM B M)) Xg (hE0.1 M) (toX hP) hS (tcX8_parts l _ X _ _ f1) (g_cwV Xg gL_law_X8_parts rfl hdL_X8_parts ⟨(Nat.le_of_ble_eq_true rfl), (Nat.le_of_ble_eq_true rfl)⟩) (rcX_main (hE0.1 M) (toX hP)) rfl hl.1 rfl (Nat.le_of_ble_eq_true rfl) dL_law_831 hcs (fun H locs hP hS => ?_)
  have hP : va_P B.1 vwCl (wX B R.2 ++ wM B M) H := ofX hP
  refine lv_aload_n hx hb dL_law_834 rfl (lv_at hl 1 rfl) ?_
  refine lv_aload_n hx hb dL_law_835 rfl (lv_at hl 3 rfl) ?_
  refine lv_iload_n hx hb dL_law_836 rfl (lv_at hl 0 rfl) ?_
  refine lv_iconst (v := (1 : Int32)) hx hb dL_law_837 (by decide) ?_
  refine lv_iadd hx hb dL_law_838 ?_
  refine l_sld Xg hX hbl hbA hS in1 hv1 dL_law_839 ?_
  refine lv_aload_n hx hb dL_law_840 rfl (lv_at hl 3 rfl) ?_
  refine lv_iload_n hx hb dL_law_841 rfl (lv_at hl 0 rfl) ?_
  refine lv_iconst (v := (2 : Int32)) hx hb dL_law_842 (by decide) ?_
  refine lv_iadd hx hb dL_law_843 ?_
  refine l_sld Xg hX hbl hbA hS in2 hv2 dL_law_844 ?_
  refine g_vi (rest := [.int R.1]) (G := bm B (wX B R.2)) Xg (hE0.2 R.2) (toM hP) hS (tcX9_parts l _ M _ _ f2) (g_cwV Xg gL_law_X9_parts rfl hdL_X9_parts ⟨(Nat.le_of_ble_eq_true rfl), (Nat.le_of_ble_eq_true rfl)⟩) (rcM_model (hE0.2 R.2) (toM hP)) rfl hl.1 rfl (Nat.le_of_ble_eq_true rfl) dL_law_845 hcs (fun H locs hP hS => ?_)
  have hP : va_P B.1 vwCl (wX B R.2 ++ wM B R'.2) H := ofM hP
  exact lv_icmp_eq (tgt := 1330) hx hb dL_law_848 (by decide) (fun _ => kk _ _ _ _ hR' hP hS) (fun c1 => absurd hE c1)
theorem hdL_X8_again : yX8_again.cls = RX8 ∧ yX8_again.cls ≠ "java/lang/invoke/MethodHandle" ∧ yX8_again.cls ≠ "java/lang/invoke/VarHandle" ∧ (parseMethodDescriptor yX8_again.desc).map (fun d => d.parameters.length) = some 1 := by decide +kernel
theorem hdL_X9_again : yX9_again.cls = RX9 ∧ yX9_again.cls ≠ "java/lang/invoke/MethodHandle" ∧ yX9_again.cls ≠ "java/lang/invoke/VarHandle" ∧ (parseMethodDescriptor yX9_again.desc).map (fun d => d.parameters.length) = some 1 := by decide +kernel
set_option maxHeartbeats 4000000 in
set_option maxRecDepth 20000 in
theorem law_c18 (Xg : GX p s m meth c #[Value.ref b] cL_law 4 ret wsL_law RL) (hE0 : LEv B s) (hX : va_X b L xs s s.heap) (hbl : b < s.heap.size) (hbA : ¬ lA B b) (hR : Rel X M) (hP : va_P B.1 vwCl (wX B X ++ wM B M) H) (hS : va_S (lA B) s.heap H locs) (hl : lv_has ls 4 [(3, .int (nI i)), (2, .ref (B.2.2.2.2.1 63)), (1, .ref (B.2.2.2.1 63)), (0, .ref b)]) (hcs : cells ≤ room_1.cells ∧ slots ≤ room_1.slots) {v1 : Int32} (in1 : vp_in (nI i + 1) L) (hv1 : xs (nI i + 1).toNatClampNeg = v1) (kk : ∀ (X' M' : GS) (H1 : Heap) (locs1 : List Loc), Rel X' M' → va_P B.1 vwCl (wX B X' ++ wM B M') H1 → va_S (lA B) s.heap H1 locs1 → W p l e room_1 s m #[Value.ref b] below meth c H1 locs1 cells slots Q (F0 m 1330 ls [])) : W p l e room_1 s m #[Value.ref b] below meth c H locs cells slots Q (F0 m 853 ls []) := by
  obtain ⟨hx, hb, -, -, hown, hts, -⟩ := id Xg
  obtain ⟨R, R', f1, f2, hE, hR'⟩ := s_again hR (v1)
  refine lv_aload_n hx hb dL_law_853 rfl (lv_at hl 2 rfl) ?_
  refine lv_aload_n hx hb dL_law_854 rfl (lv_at hl 3 rfl) ?_
  refine lv_iload_n hx hb dL_law_855 rfl (lv_at hl 0 rfl) ?_
  refine lv_iconst (v := (1 : Int32)) hx hb dL_law_856 (by decide) ?_
  refine lv_iadd hx hb dL_law_857 ?_
  refine l_sld Xg hX hbl hbA hS in1 hv1 dL_law_858 ?_
  refine g_vi (rest := []) (G := bx B (wM B M)) Xg (hE0.1 M) (toX hP) hS (tcX8_again l _ X _ f1) (g_cwV Xg gL_law_X8_again rfl hdL_X8_again ⟨(Nat.le_of_ble_eq_true rfl), (Nat.le_of_ble_eq_true rfl)⟩) (rcX_main (hE0.1 M) (toX hP)) rfl hl.1 rfl (Nat.le_of_ble_eq_true rfl) dL_law_859 hcs (fun H locs hP hS => ?_)
  have hP : va_P B.1 vwCl (wX B R.2 ++ wM B M) H := ofX hP
  refine lv_aload_n hx hb dL_law_862 rfl (lv_at hl 1 rfl) ?_
  refine lv_aload_n hx hb dL_law_863 rfl (lv_at hl 3 rfl) ?_
  refine lv_iload_n hx hb dL_law_864 rfl (lv_at hl 0 rfl) ?_
  refine lv_iconst (v := (1 : Int32)) hx hb dL_law_865 (by decide) ?_
  refine lv_iadd hx hb dL_law_866 ?_
  refine l_sld Xg hX hbl hbA hS in1 hv1 dL_law_867 ?_
  refine g_vi (rest := [.int R.1]) (G := bm B (wX B R.2)) Xg (hE0.2 R.2) (toM hP) hS (tcX9_again l _ M _ f2) (g_cwV Xg gL_law_X9_again rfl hdL_X9_again ⟨(Nat.le_of_ble_eq_true rfl), (Nat.le_of_ble_eq_true rfl)⟩) (rcM_model (hE0.2 R.2) (toM hP)) rfl hl.1 rfl (Nat.le_of_ble_eq_true rfl) dL_law_868 hcs (fun H locs hP hS => ?_)
  have hP : va_P B.1 vwCl (wX B R.2 ++ wM B R'.2) H := ofM hP
  exact lv_icmp_eq (tgt := 1330) hx hb dL_law_871 (by decide) (fun _ => kk _ _ _ _ hR' hP hS) (fun c1 => absurd hE c1)
theorem hdL_X8_order : yX8_order.cls = RX8 ∧ yX8_order.cls ≠ "java/lang/invoke/MethodHandle" ∧ yX8_order.cls ≠ "java/lang/invoke/VarHandle" ∧ (parseMethodDescriptor yX8_order.desc).map (fun d => d.parameters.length) = some 1 := by decide +kernel
theorem hdL_X9_order : yX9_order.cls = RX9 ∧ yX9_order.cls ≠ "java/lang/invoke/MethodHandle" ∧ yX9_order.cls ≠ "java/lang/invoke/VarHandle" ∧ (parseMethodDescriptor yX9_order.desc).map (fun d => d.parameters.length) = some 1 := by decide +kernel
set_option maxHeartbeats 4000000 in
set_option maxRecDepth 20000 in
theorem law_c19 (Xg : GX p s m meth c #[Value.ref b] cL_law 4 ret wsL_law RL) (hE0 : LEv B s) (hX : va_X b L xs s s.heap) (hbl : b < s.heap.size) (hbA : ¬ lA B b) (hR : Rel X M) (hP : va_P B.1 vwCl (wX B X ++ wM B M) H) (hS : va_S (lA B) s.heap H locs) (hl : lv_has ls 4 [(3, .int (nI i)), (2, .ref (B.2.2.2.2.1 63)), (1, .ref (B.2.2.2.1 63)), (0, .ref b)]) (hcs : cells ≤ room_1.cells ∧ slots ≤ room_1.slots) {v1 : Int32} (in1 : vp_in (nI i + 1) L) (hv1 : xs (nI i + 1).toNatClampNeg = v1) (kk : ∀ (X' M' : GS) (H1 : Heap) (locs1 : List Loc), Rel X' M' → va_P B.1 vwCl (wX B X' ++ wM B M') H1 → va_S (lA B) s.heap H1 locs1 → W p l e room_1 s m #[Value.ref b] below meth c H1 locs1 cells slots Q (F0 m 1330 ls [])) : W p l e room_1 s m #[Value.ref b] below meth c H locs cells slots Q (F0 m 876 ls []) := by
  obtain ⟨hx, hb, -, -, hown, hts, -⟩ := id Xg
  obtain ⟨R, R', f1, f2, hE, hR'⟩ := s_order hR (v1)
  refine lv_aload_n hx hb dL_law_876 rfl (lv_at hl 2 rfl) ?_
  refine lv_aload_n hx hb dL_law_877 rfl (lv_at hl 3 rfl) ?_
  refine lv_iload_n hx hb dL_law_878 rfl (lv_at hl 0 rfl) ?_
  refine lv_iconst (v := (1 : Int32)) hx hb dL_law_879 (by decide) ?_
  refine lv_iadd hx hb dL_law_880 ?_
  refine l_sld Xg hX hbl hbA hS in1 hv1 dL_law_881 ?_
  refine g_vi (rest := []) (G := bx B (wM B M)) Xg (hE0.1 M) (toX hP) hS (tcX8_order l _ X _ f1) (g_cwV Xg gL_law_X8_order rfl hdL_X8_order ⟨(Nat.le_of_ble_eq_true rfl), (Nat.le_of_ble_eq_true rfl)⟩) (rcX_main (hE0.1 M) (toX hP)) rfl hl.1 rfl (Nat.le_of_ble_eq_true rfl) dL_law_882 hcs (fun H locs hP hS => ?_)
  have hP : va_P B.1 vwCl (wX B R.2 ++ wM B M) H := ofX hP
  refine lv_aload_n hx hb dL_law_885 rfl (lv_at hl 1 rfl) ?_
  refine lv_aload_n hx hb dL_law_886 rfl (lv_at hl 3 rfl) ?_
  refine lv_iload_n hx hb dL_law_887 rfl (lv_at hl 0 rfl) ?_
  refine lv_iconst (v := (1 : Int32)) hx hb dL_law_888 (by decide) ?_
  refine lv_iadd hx hb dL_law_889 ?_
  refine l_sld Xg hX hbl hbA hS in1 hv1 dL_law_890 ?_
  refine g_vi (rest := [.int R.1]) (G := bm B (wX B R.2)) Xg (hE0.2 R.2) (toM hP) hS (tcX9_order l _ M _ f2) (g_cwV Xg gL_law_X9_order rfl hdL_X9_order ⟨(Nat.le_of_ble_eq_true rfl), (Nat.le_of_ble_eq_true rfl)⟩) (rcM_model (hE0.2 R.2) (toM hP)) rfl hl.1 rfl (Nat.le_of_ble_eq_true rfl) dL_law_891 hcs (fun H locs hP hS => ?_)
  have hP : va_P B.1 vwCl (wX B R.2 ++ wM B R'.2) H := ofM hP
  exact lv_icmp_eq (tgt := 1330) hx hb dL_law_894 (by decide) (fun _ => kk _ _ _ _ hR' hP hS) (fun c1 => absurd hE c1)
theorem hdL_X8_meet : yX8_meet.cls = RX8 ∧ yX8_meet.cls ≠ "java/lang/invoke/MethodHandle" ∧ yX8_meet.cls ≠ "java/lang/invoke/VarHandle" ∧ (parseMethodDescriptor yX8_meet.desc).map (fun d => d.parameters.length) = some 3 := by decide +kernel
theorem hdL_X9_meet : yX9_meet.cls = RX9 ∧ yX9_meet.cls ≠ "java/lang/invoke/MethodHandle" ∧ yX9_meet.cls ≠ "java/lang/invoke/VarHandle" ∧ (parseMethodDescriptor yX9_meet.desc).map (fun d => d.parameters.length) = some 3 := by decide +kernel
set_option maxHeartbeats 4000000 in
set_option maxRecDepth 20000 in
theorem law_c20 (Xg : GX p s m meth c #[Value.ref b] cL_law 4 ret wsL_law RL) (hE0 : LEv B s) (hX : va_X b L xs s s.heap) (hbl : b < s.heap.size) (hbA : ¬ lA B b) (hR : Rel X M) (hP : va_P B.1 vwCl (wX B X ++ wM B M) H) (hS : va_S (lA B) s.heap H locs) (hl : lv_has ls 4 [(3, .int (nI i)), (2, .ref (B.2.2.2.2.1 63)), (1, .ref (B.2.2.2.1 63)), (0, .ref b)]) (hcs : cells ≤ room_1.cells ∧ slots ≤ room_1.slots) {v1 : Int32} (in1 : vp_in (nI i + 1) L) (hv1 : xs (nI i + 1).toNatClampNeg = v1) {v2 : Int32} (in2 : vp_in (nI i + 2) L) (hv2 : xs (nI i + 2).toNatClampNeg = v2) {v3 : Int32} (in3 : vp_in (nI i + 3) L) (hv3 : xs (nI i + 3).toNatClampNeg = v3) (kk : ∀ (X' M' : GS) (H1 : Heap) (locs1 : List Loc), Rel X' M' → va_P B.1 vwCl (wX B X' ++ wM B M') H1 → va_S (lA B) s.heap H1 locs1 → W p l e room_1 s m #[Value.ref b] below meth c H1 locs1 cells slots Q (F0 m 1330 ls [])) : W p l e room_1 s m #[Value.ref b] below meth c H locs cells slots Q (F0 m 899 ls []) := by
  obtain ⟨hx, hb, -, -, hown, hts, -⟩ := id Xg
  obtain ⟨R, R', f1, f2, hE, hR'⟩ := s_meet hR (v1) (v2) (v3)
  refine lv_aload_n hx hb dL_law_899 rfl (lv_at hl 2 rfl) ?_
  refine lv_aload_n hx hb dL_law_900 rfl (lv_at hl 3 rfl) ?_
  refine lv_iload_n hx hb dL_law_901 rfl (lv_at hl 0 rfl) ?_
  refine lv_iconst (v := (1 : Int32)) hx hb dL_law_902 (by decide) ?_
  refine lv_iadd hx hb dL_law_903 ?_
  refine l_sld Xg hX hbl hbA hS in1 hv1 dL_law_904 ?_
  refine lv_aload_n hx hb dL_law_905 rfl (lv_at hl 3 rfl) ?_
  refine lv_iload_n hx hb dL_law_906 rfl (lv_at hl 0 rfl) ?_
  refine lv_iconst (v := (2 : Int32)) hx hb dL_law_907 (by decide) ?_
  refine lv_iadd hx hb dL_law_908 ?_
  refine l_sld Xg hX hbl hbA hS in2 hv2 dL_law_909 ?_
  refine lv_aload_n hx hb dL_law_910 rfl (lv_at hl 3 rfl) ?_
  refine lv_iload_n hx hb dL_law_911 rfl (lv_at hl 0 rfl) ?_
  refine lv_iconst (v := (3 : Int32)) hx hb dL_law_912 (by decide) ?_
  refine lv_iadd hx hb dL_law_913 ?_
  refine l_sld Xg hX hbl hbA hS in3 hv3 dL_law_914 ?_
  refine g_vi (rest := []) (G := bx B (wM B M)) Xg (hE0.1 M) (toX hP) hS (tcX8_meet l _ X _ _ _ f1) (g_cwV Xg gL_law_X8_meet rfl hdL_X8_meet ⟨(Nat.le_of_ble_eq_true rfl), (Nat.le_of_ble_eq_true rfl)⟩) (rcX_main (hE0.1 M) (toX hP)) rfl hl.1 rfl (Nat.le_of_ble_eq_true rfl) dL_law_915 hcs (fun H locs hP hS => ?_)
  have hP : va_P B.1 vwCl (wX B R.2 ++ wM B M) H := ofX hP
  refine lv_aload_n hx hb dL_law_918 rfl (lv_at hl 1 rfl) ?_
  refine lv_aload_n hx hb dL_law_919 rfl (lv_at hl 3 rfl) ?_
  refine lv_iload_n hx hb dL_law_920 rfl (lv_at hl 0 rfl) ?_
  refine lv_iconst (v := (1 : Int32)) hx hb dL_law_921 (by decide) ?_
  refine lv_iadd hx hb dL_law_922 ?_
  refine l_sld Xg hX hbl hbA hS in1 hv1 dL_law_923 ?_
  refine lv_aload_n hx hb dL_law_924 rfl (lv_at hl 3 rfl) ?_
  refine lv_iload_n hx hb dL_law_925 rfl (lv_at hl 0 rfl) ?_
  refine lv_iconst (v := (2 : Int32)) hx hb dL_law_926 (by decide) ?_
  refine lv_iadd hx hb dL_law_927 ?_
  refine l_sld Xg hX hbl hbA hS in2 hv2 dL_law_928 ?_
  refine lv_aload_n hx hb dL_law_929 rfl (lv_at hl 3 rfl) ?_
  refine lv_iload_n hx hb dL_law_930 rfl (lv_at hl 0 rfl) ?_
  refine lv_iconst (v := (3 : Int32)) hx hb dL_law_931 (by decide) ?_
  refine lv_iadd hx hb dL_law_932 ?_
  refine l_sld Xg hX hbl hbA hS in3 hv3 dL_law_933 ?_
  refine g_vi (rest := [.int R.1]) (G := bm B (wX B R.2)) Xg (hE0.2 R.2) (toM hP) hS (tcX9_meet l _ M _ _ _ f2) (g_cwV Xg gL_law_X9_meet rfl hdL_X9_meet ⟨(Nat.le_of_ble_eq_true rfl), (Nat.le_of_ble_eq_true rfl)⟩) (rcM_model (hE0.2 R.2) (toM hP)) rfl hl.1 rfl (Nat.le_of_ble_eq_true rfl) dL_law_934 hcs (fun H locs hP hS => ?_)
  have hP : va_P B.1 vwCl (wX B R.2 ++ wM B R'.2) H := ofM hP
  exact lv_icmp_eq (tgt := 1330) hx hb dL_law_937 (by decide) (fun _ => kk _ _ _ _ hR' hP hS) (fun c1 => absurd hE c1)
theorem hdL_X8_rose : yX8_rose.cls = RX8 ∧ yX8_rose.cls ≠ "java/lang/invoke/MethodHandle" ∧ yX8_rose.cls ≠ "java/lang/invoke/VarHandle" ∧ (parseMethodDescriptor yX8_rose.desc).map (fun d => d.parameters.length) = some 3 := by decide +kernel
theorem hdL_X9_rose : yX9_rose.cls = RX9 ∧ yX9_rose.cls ≠ "java/lang/invoke/MethodHandle" ∧ yX9_rose.cls ≠ "java/lang/invoke/VarHandle" ∧ (parseMethodDescriptor yX9_rose.desc).map (fun d => d.parameters.length) = some 3 := by decide +kernel
set_option maxHeartbeats 4000000 in
set_option maxRecDepth 20000 in
theorem law_c21 (Xg : GX p s m meth c #[Value.ref b] cL_law 4 ret wsL_law RL) (hE0 : LEv B s) (hX : va_X b L xs s s.heap) (hbl : b < s.heap.size) (hbA : ¬ lA B b) (hR : Rel X M) (hP : va_P B.1 vwCl (wX B X ++ wM B M) H) (hS : va_S (lA B) s.heap H locs) (hl : lv_has ls 4 [(3, .int (nI i)), (2, .ref (B.2.2.2.2.1 63)), (1, .ref (B.2.2.2.1 63)), (0, .ref b)]) (hcs : cells ≤ room_1.cells ∧ slots ≤ room_1.slots) {v1 : Int32} (in1 : vp_in (nI i + 1) L) (hv1 : xs (nI i + 1).toNatClampNeg = v1) {v2 : Int32} (in2 : vp_in (nI i + 2) L) (hv2 : xs (nI i + 2).toNatClampNeg = v2) {v3 : Int32} (in3 : vp_in (nI i + 3) L) (hv3 : xs (nI i + 3).toNatClampNeg = v3) (kk : ∀ (X' M' : GS) (H1 : Heap) (locs1 : List Loc), Rel X' M' → va_P B.1 vwCl (wX B X' ++ wM B M') H1 → va_S (lA B) s.heap H1 locs1 → W p l e room_1 s m #[Value.ref b] below meth c H1 locs1 cells slots Q (F0 m 1330 ls [])) : W p l e room_1 s m #[Value.ref b] below meth c H locs cells slots Q (F0 m 942 ls []) := by
  obtain ⟨hx, hb, -, -, hown, hts, -⟩ := id Xg
  obtain ⟨R, R', f1, f2, hE, hR'⟩ := s_rose hR (v1) (v2) (v3)
  refine lv_aload_n hx hb dL_law_942 rfl (lv_at hl 2 rfl) ?_
  refine lv_aload_n hx hb dL_law_943 rfl (lv_at hl 3 rfl) ?_
  refine lv_iload_n hx hb dL_law_944 rfl (lv_at hl 0 rfl) ?_
  refine lv_iconst (v := (1 : Int32)) hx hb dL_law_945 (by decide) ?_
  refine lv_iadd hx hb dL_law_946 ?_
  refine l_sld Xg hX hbl hbA hS in1 hv1 dL_law_947 ?_
  refine lv_aload_n hx hb dL_law_948 rfl (lv_at hl 3 rfl) ?_
  refine lv_iload_n hx hb dL_law_949 rfl (lv_at hl 0 rfl) ?_
  refine lv_iconst (v := (2 : Int32)) hx hb dL_law_950 (by decide) ?_
  refine lv_iadd hx hb dL_law_951 ?_
  refine l_sld Xg hX hbl hbA hS in2 hv2 dL_law_952 ?_
  refine lv_aload_n hx hb dL_law_953 rfl (lv_at hl 3 rfl) ?_
  refine lv_iload_n hx hb dL_law_954 rfl (lv_at hl 0 rfl) ?_
  refine lv_iconst (v := (3 : Int32)) hx hb dL_law_955 (by decide) ?_
  refine lv_iadd hx hb dL_law_956 ?_
  refine l_sld Xg hX hbl hbA hS in3 hv3 dL_law_957 ?_
  refine g_vi (rest := []) (G := bx B (wM B M)) Xg (hE0.1 M) (toX hP) hS (tcX8_rose l _ X _ _ _ f1) (g_cwV Xg gL_law_X8_rose rfl hdL_X8_rose ⟨(Nat.le_of_ble_eq_true rfl), (Nat.le_of_ble_eq_true rfl)⟩) (rcX_main (hE0.1 M) (toX hP)) rfl hl.1 rfl (Nat.le_of_ble_eq_true rfl) dL_law_958 hcs (fun H locs hP hS => ?_)
  have hP : va_P B.1 vwCl (wX B R.2 ++ wM B M) H := ofX hP
  refine lv_aload_n hx hb dL_law_961 rfl (lv_at hl 1 rfl) ?_
  refine lv_aload_n hx hb dL_law_962 rfl (lv_at hl 3 rfl) ?_
  refine lv_iload_n hx hb dL_law_963 rfl (lv_at hl 0 rfl) ?_
  refine lv_iconst (v := (1 : Int32)) hx hb dL_law_964 (by decide) ?_
  refine lv_iadd hx hb dL_law_965 ?_
  refine l_sld Xg hX hbl hbA hS in1 hv1 dL_law_966 ?_
  refine lv_aload_n hx hb dL_law_967 rfl (lv_at hl 3 rfl) ?_
  refine lv_iload_n hx hb dL_law_968 rfl (lv_at hl 0 rfl) ?_
  refine lv_iconst (v := (2 : Int32)) hx hb dL_law_969 (by decide) ?_
  refine lv_iadd hx hb dL_law_970 ?_
  refine l_sld Xg hX hbl hbA hS in2 hv2 dL_law_971 ?_
  refine lv_aload_n hx hb dL_law_972 rfl (lv_at hl 3 rfl) ?_
  refine lv_iload_n hx hb dL_law_973 rfl (lv_at hl 0 rfl) ?_
  refine lv_iconst (v := (3 : Int32)) hx hb dL_law_974 (by decide) ?_
  refine lv_iadd hx hb dL_law_975 ?_
  refine l_sld Xg hX hbl hbA hS in3 hv3 dL_law_976 ?_
  refine g_vi (rest := [.int R.1]) (G := bm B (wX B R.2)) Xg (hE0.2 R.2) (toM hP) hS (tcX9_rose l _ M _ _ _ f2) (g_cwV Xg gL_law_X9_rose rfl hdL_X9_rose ⟨(Nat.le_of_ble_eq_true rfl), (Nat.le_of_ble_eq_true rfl)⟩) (rcM_model (hE0.2 R.2) (toM hP)) rfl hl.1 rfl (Nat.le_of_ble_eq_true rfl) dL_law_977 hcs (fun H locs hP hS => ?_)
  have hP : va_P B.1 vwCl (wX B R.2 ++ wM B R'.2) H := ofM hP
  exact lv_icmp_eq (tgt := 1330) hx hb dL_law_980 (by decide) (fun _ => kk _ _ _ _ hR' hP hS) (fun c1 => absurd hE c1)
theorem hdL_X8_crooked : yX8_crooked.cls = RX8 ∧ yX8_crooked.cls ≠ "java/lang/invoke/MethodHandle" ∧ yX8_crooked.cls ≠ "java/lang/invoke/VarHandle" ∧ (parseMethodDescriptor yX8_crooked.desc).map (fun d => d.parameters.length) = some 1 := by decide +kernel
theorem hdL_X9_crooked : yX9_crooked.cls = RX9 ∧ yX9_crooked.cls ≠ "java/lang/invoke/MethodHandle" ∧ yX9_crooked.cls ≠ "java/lang/invoke/VarHandle" ∧ (parseMethodDescriptor yX9_crooked.desc).map (fun d => d.parameters.length) = some 1 := by decide +kernel
set_option maxHeartbeats 4000000 in
set_option maxRecDepth 20000 in
theorem law_c22 (Xg : GX p s m meth c #[Value.ref b] cL_law 4 ret wsL_law RL) (hE0 : LEv B s) (hX : va_X b L xs s s.heap) (hbl : b < s.heap.size) (hbA : ¬ lA B b) (hR : Rel X M) (hP : va_P B.1 vwCl (wX B X ++ wM B M) H) (hS : va_S (lA B) s.heap H locs) (hl : lv_has ls 4 [(3, .int (nI i)), (2, .ref (B.2.2.2.2.1 63)), (1, .ref (B.2.2.2.1 63)), (0, .ref b)]) (hcs : cells ≤ room_1.cells ∧ slots ≤ room_1.slots) {v1 : Int32} (in1 : vp_in (nI i + 1) L) (hv1 : xs (nI i + 1).toNatClampNeg = v1) (kk : ∀ (X' M' : GS) (H1 : Heap) (locs1 : List Loc), Rel X' M' → va_P B.1 vwCl (wX B X' ++ wM B M') H1 → va_S (lA B) s.heap H1 locs1 → W p l e room_1 s m #[Value.ref b] below meth c H1 locs1 cells slots Q (F0 m 1330 ls [])) : W p l e room_1 s m #[Value.ref b] below meth c H locs cells slots Q (F0 m 985 ls []) := by
  obtain ⟨hx, hb, -, -, hown, hts, -⟩ := id Xg
  obtain ⟨R, R', f1, f2, hE, hR'⟩ := s_crooked hR (v1)
  refine lv_aload_n hx hb dL_law_985 rfl (lv_at hl 2 rfl) ?_
  refine lv_aload_n hx hb dL_law_986 rfl (lv_at hl 3 rfl) ?_
  refine lv_iload_n hx hb dL_law_987 rfl (lv_at hl 0 rfl) ?_
  refine lv_iconst (v := (1 : Int32)) hx hb dL_law_988 (by decide) ?_
  refine lv_iadd hx hb dL_law_989 ?_
  refine l_sld Xg hX hbl hbA hS in1 hv1 dL_law_990 ?_
  refine g_vi (rest := []) (G := bx B (wM B M)) Xg (hE0.1 M) (toX hP) hS (tcX8_crooked l _ X _ f1) (g_cwV Xg gL_law_X8_crooked rfl hdL_X8_crooked ⟨(Nat.le_of_ble_eq_true rfl), (Nat.le_of_ble_eq_true rfl)⟩) (rcX_main (hE0.1 M) (toX hP)) rfl hl.1 rfl (Nat.le_of_ble_eq_true rfl) dL_law_991 hcs (fun H locs hP hS => ?_)
  have hP : va_P B.1 vwCl (wX B R.2 ++ wM B M) H := ofX hP
  refine lv_aload_n hx hb dL_law_994 rfl (lv_at hl 1 rfl) ?_
  refine lv_aload_n hx hb dL_law_995 rfl (lv_at hl 3 rfl) ?_
  refine lv_iload_n hx hb dL_law_996 rfl (lv_at hl 0 rfl) ?_
  refine lv_iconst (v := (1 : Int32)) hx hb dL_law_997 (by decide) ?_
  refine lv_iadd hx hb dL_law_998 ?_
  refine l_sld Xg hX hbl hbA hS in1 hv1 dL_law_999 ?_
  refine g_vi (rest := [.int R.1]) (G := bm B (wX B R.2)) Xg (hE0.2 R.2) (toM hP) hS (tcX9_crooked l _ M _ f2) (g_cwV Xg gL_law_X9_crooked rfl hdL_X9_crooked ⟨(Nat.le_of_ble_eq_true rfl), (Nat.le_of_ble_eq_true rfl)⟩) (rcM_model (hE0.2 R.2) (toM hP)) rfl hl.1 rfl (Nat.le_of_ble_eq_true rfl) dL_law_1000 hcs (fun H locs hP hS => ?_)
  have hP : va_P B.1 vwCl (wX B R.2 ++ wM B R'.2) H := ofM hP
  exact lv_icmp_eq (tgt := 1330) hx hb dL_law_1003 (by decide) (fun _ => kk _ _ _ _ hR' hP hS) (fun c1 => absurd hE c1)
theorem hdL_X8_most : yX8_most.cls = RX8 ∧ yX8_most.cls ≠ "java/lang/invoke/MethodHandle" ∧ yX8_most.cls ≠ "java/lang/invoke/VarHandle" ∧ (parseMethodDescriptor yX8_most.desc).map (fun d => d.parameters.length) = some 1 := by decide +kernel
theorem hdL_X9_most : yX9_most.cls = RX9 ∧ yX9_most.cls ≠ "java/lang/invoke/MethodHandle" ∧ yX9_most.cls ≠ "java/lang/invoke/VarHandle" ∧ (parseMethodDescriptor yX9_most.desc).map (fun d => d.parameters.length) = some 1 := by decide +kernel
set_option maxHeartbeats 4000000 in
set_option maxRecDepth 20000 in
theorem law_c23 (Xg : GX p s m meth c #[Value.ref b] cL_law 4 ret wsL_law RL) (hE0 : LEv B s) (hX : va_X b L xs s s.heap) (hbl : b < s.heap.size) (hbA : ¬ lA B b) (hR : Rel X M) (hP : va_P B.1 vwCl (wX B X ++ wM B M) H) (hS : va_S (lA B) s.heap H locs) (hl : lv_has ls 4 [(3, .int (nI i)), (2, .ref (B.2.2.2.2.1 63)), (1, .ref (B.2.2.2.1 63)), (0, .ref b)]) (hcs : cells ≤ room_1.cells ∧ slots ≤ room_1.slots) {v1 : Int32} (in1 : vp_in (nI i + 1) L) (hv1 : xs (nI i + 1).toNatClampNeg = v1) (kk : ∀ (X' M' : GS) (H1 : Heap) (locs1 : List Loc), Rel X' M' → va_P B.1 vwCl (wX B X' ++ wM B M') H1 → va_S (lA B) s.heap H1 locs1 → W p l e room_1 s m #[Value.ref b] below meth c H1 locs1 cells slots Q (F0 m 1330 ls [])) : W p l e room_1 s m #[Value.ref b] below meth c H locs cells slots Q (F0 m 1008 ls []) := by
  obtain ⟨hx, hb, -, -, hown, hts, -⟩ := id Xg
  obtain ⟨R, R', f1, f2, hE, hR'⟩ := s_most hR (v1)
  refine lv_aload_n hx hb dL_law_1008 rfl (lv_at hl 2 rfl) ?_
  refine lv_aload_n hx hb dL_law_1009 rfl (lv_at hl 3 rfl) ?_
  refine lv_iload_n hx hb dL_law_1010 rfl (lv_at hl 0 rfl) ?_
  refine lv_iconst (v := (1 : Int32)) hx hb dL_law_1011 (by decide) ?_
  refine lv_iadd hx hb dL_law_1012 ?_
  refine l_sld Xg hX hbl hbA hS in1 hv1 dL_law_1013 ?_
  refine g_vi (rest := []) (G := bx B (wM B M)) Xg (hE0.1 M) (toX hP) hS (tcX8_most l _ X _ f1) (g_cwV Xg gL_law_X8_most rfl hdL_X8_most ⟨(Nat.le_of_ble_eq_true rfl), (Nat.le_of_ble_eq_true rfl)⟩) (rcX_main (hE0.1 M) (toX hP)) rfl hl.1 rfl (Nat.le_of_ble_eq_true rfl) dL_law_1014 hcs (fun H locs hP hS => ?_)
  have hP : va_P B.1 vwCl (wX B R.2 ++ wM B M) H := ofX hP
  refine lv_aload_n hx hb dL_law_1017 rfl (lv_at hl 1 rfl) ?_
  refine lv_aload_n hx hb dL_law_1018 rfl (lv_at hl 3 rfl) ?_
  refine lv_iload_n hx hb dL_law_1019 rfl (lv_at hl 0 rfl) ?_
  refine lv_iconst (v := (1 : Int32)) hx hb dL_law_1020 (by decide) ?_
  refine lv_iadd hx hb dL_law_1021 ?_
  refine l_sld Xg hX hbl hbA hS in1 hv1 dL_law_1022 ?_
  refine g_vi (rest := [.int R.1]) (G := bm B (wX B R.2)) Xg (hE0.2 R.2) (toM hP) hS (tcX9_most l _ M _ f2) (g_cwV Xg gL_law_X9_most rfl hdL_X9_most ⟨(Nat.le_of_ble_eq_true rfl), (Nat.le_of_ble_eq_true rfl)⟩) (rcM_model (hE0.2 R.2) (toM hP)) rfl hl.1 rfl (Nat.le_of_ble_eq_true rfl) dL_law_1023 hcs (fun H locs hP hS => ?_)
  have hP : va_P B.1 vwCl (wX B R.2 ++ wM B R'.2) H := ofM hP
  exact lv_icmp_eq (tgt := 1330) hx hb dL_law_1026 (by decide) (fun _ => kk _ _ _ _ hR' hP hS) (fun c1 => absurd hE c1)
theorem hdL_X8_hours : yX8_hours.cls = RX8 ∧ yX8_hours.cls ≠ "java/lang/invoke/MethodHandle" ∧ yX8_hours.cls ≠ "java/lang/invoke/VarHandle" ∧ (parseMethodDescriptor yX8_hours.desc).map (fun d => d.parameters.length) = some 0 := by decide +kernel
theorem hdL_X9_hours : yX9_hours.cls = RX9 ∧ yX9_hours.cls ≠ "java/lang/invoke/MethodHandle" ∧ yX9_hours.cls ≠ "java/lang/invoke/VarHandle" ∧ (parseMethodDescriptor yX9_hours.desc).map (fun d => d.parameters.length) = some 0 := by decide +kernel
set_option maxHeartbeats 4000000 in
set_option maxRecDepth 20000 in
theorem law_c24 (Xg : GX p s m meth c #[Value.ref b] cL_law 4 ret wsL_law RL) (hE0 : LEv B s) (hX : va_X b L xs s s.heap) (hbl : b < s.heap.size) (hbA : ¬ lA B b) (hR : Rel X M) (hP : va_P B.1 vwCl (wX B X ++ wM B M) H) (hS : va_S (lA B) s.heap H locs) (hl : lv_has ls 4 [(3, .int (nI i)), (2, .ref (B.2.2.2.2.1 63)), (1, .ref (B.2.2.2.1 63)), (0, .ref b)]) (hcs : cells ≤ room_1.cells ∧ slots ≤ room_1.slots)  (kk : ∀ (X' M' : GS) (H1 : Heap) (locs1 : List Loc), Rel X' M' → va_P B.1 vwCl (wX B X' ++ wM B M') H1 → va_S (lA B) s.heap H1 locs1 → W p l e room_1 s m #[Value.ref b] below meth c H1 locs1 cells slots Q (F0 m 1330 ls [])) : W p l e room_1 s m #[Value.ref b] below meth c H locs cells slots Q (F0 m 1031 ls []) := by
  obtain ⟨hx, hb, -, -, hown, hts, -⟩ := id Xg
  obtain ⟨r, f1, f2⟩ := s_hours hR 
  refine lv_aload_n hx hb dL_law_1031 rfl (lv_at hl 2 rfl) ?_
  refine g_vi (rest := []) (G := bx B (wM B M)) Xg (hE0.1 M) (toX hP) hS (tcX8_hours l _ X  f1) (g_cwV Xg gL_law_X8_hours rfl hdL_X8_hours ⟨(Nat.le_of_ble_eq_true rfl), (Nat.le_of_ble_eq_true rfl)⟩) (rcX_main (hE0.1 M) (toX hP)) rfl hl.1 rfl (Nat.le_of_ble_eq_true rfl) dL_law_1032 hcs (fun H locs hP hS => ?_)
  have hP : va_P B.1 vwCl (wX B X ++ wM B M) H := ofX hP
  refine lv_aload_n hx hb dL_law_1035 rfl (lv_at hl 1 rfl) ?_
  refine g_vi (rest := [.int r]) (G := bm B (wX B X)) Xg (hE0.2 X) (toM hP) hS (tcX9_hours l _ M  f2) (g_cwV Xg gL_law_X9_hours rfl hdL_X9_hours ⟨(Nat.le_of_ble_eq_true rfl), (Nat.le_of_ble_eq_true rfl)⟩) (rcM_model (hE0.2 X) (toM hP)) rfl hl.1 rfl (Nat.le_of_ble_eq_true rfl) dL_law_1036 hcs (fun H locs hP hS => ?_)
  have hP : va_P B.1 vwCl (wX B X ++ wM B M) H := ofM hP
  exact lv_icmp_eq (tgt := 1330) hx hb dL_law_1039 (by decide) (fun _ => kk _ _ _ _ hR hP hS) (fun c1 => absurd rfl c1)
theorem hdL_X8_judge : yX8_judge.cls = RX8 ∧ yX8_judge.cls ≠ "java/lang/invoke/MethodHandle" ∧ yX8_judge.cls ≠ "java/lang/invoke/VarHandle" ∧ (parseMethodDescriptor yX8_judge.desc).map (fun d => d.parameters.length) = some 2 := by decide +kernel
theorem hdL_X9_judge : yX9_judge.cls = RX9 ∧ yX9_judge.cls ≠ "java/lang/invoke/MethodHandle" ∧ yX9_judge.cls ≠ "java/lang/invoke/VarHandle" ∧ (parseMethodDescriptor yX9_judge.desc).map (fun d => d.parameters.length) = some 2 := by decide +kernel
set_option maxHeartbeats 4000000 in
set_option maxRecDepth 20000 in
theorem law_c25 (Xg : GX p s m meth c #[Value.ref b] cL_law 4 ret wsL_law RL) (hE0 : LEv B s) (hX : va_X b L xs s s.heap) (hbl : b < s.heap.size) (hbA : ¬ lA B b) (hR : Rel X M) (hP : va_P B.1 vwCl (wX B X ++ wM B M) H) (hS : va_S (lA B) s.heap H locs) (hl : lv_has ls 4 [(3, .int (nI i)), (2, .ref (B.2.2.2.2.1 63)), (1, .ref (B.2.2.2.1 63)), (0, .ref b)]) (hcs : cells ≤ room_1.cells ∧ slots ≤ room_1.slots) {v1 : Int32} (in1 : vp_in (nI i + 1) L) (hv1 : xs (nI i + 1).toNatClampNeg = v1) {v2 : Int32} (in2 : vp_in (nI i + 2) L) (hv2 : xs (nI i + 2).toNatClampNeg = v2) (kk : ∀ (X' M' : GS) (H1 : Heap) (locs1 : List Loc), Rel X' M' → va_P B.1 vwCl (wX B X' ++ wM B M') H1 → va_S (lA B) s.heap H1 locs1 → W p l e room_1 s m #[Value.ref b] below meth c H1 locs1 cells slots Q (F0 m 1330 ls [])) : W p l e room_1 s m #[Value.ref b] below meth c H locs cells slots Q (F0 m 1044 ls []) := by
  obtain ⟨hx, hb, -, -, hown, hts, -⟩ := id Xg
  obtain ⟨R, R', f1, f2, hE, hR'⟩ := s_judge hR (v1) (v2)
  refine lv_aload_n hx hb dL_law_1044 rfl (lv_at hl 2 rfl) ?_
  refine lv_aload_n hx hb dL_law_1045 rfl (lv_at hl 3 rfl) ?_
  refine lv_iload_n hx hb dL_law_1046 rfl (lv_at hl 0 rfl) ?_
  refine lv_iconst (v := (1 : Int32)) hx hb dL_law_1047 (by decide) ?_
  refine lv_iadd hx hb dL_law_1048 ?_
  refine l_sld Xg hX hbl hbA hS in1 hv1 dL_law_1049 ?_
  refine lv_aload_n hx hb dL_law_1050 rfl (lv_at hl 3 rfl) ?_
  refine lv_iload_n hx hb dL_law_1051 rfl (lv_at hl 0 rfl) ?_
  refine lv_iconst (v := (2 : Int32)) hx hb dL_law_1052 (by decide) ?_
  refine lv_iadd hx hb dL_law_1053 ?_
  refine l_sld Xg hX hbl hbA hS in2 hv2 dL_law_1054 ?_
  refine g_vi (rest := []) (G := bx B (wM B M)) Xg (hE0.1 M) (toX hP) hS (tcX8_judge l _ X _ _ f1) (g_cwV Xg gL_law_X8_judge rfl hdL_X8_judge ⟨(Nat.le_of_ble_eq_true rfl), (Nat.le_of_ble_eq_true rfl)⟩) (rcX_main (hE0.1 M) (toX hP)) rfl hl.1 rfl (Nat.le_of_ble_eq_true rfl) dL_law_1055 hcs (fun H locs hP hS => ?_)
  have hP : va_P B.1 vwCl (wX B R.2 ++ wM B M) H := ofX hP
  refine lv_aload_n hx hb dL_law_1058 rfl (lv_at hl 1 rfl) ?_
  refine lv_aload_n hx hb dL_law_1059 rfl (lv_at hl 3 rfl) ?_
  refine lv_iload_n hx hb dL_law_1060 rfl (lv_at hl 0 rfl) ?_
  refine lv_iconst (v := (1 : Int32)) hx hb dL_law_1061 (by decide) ?_
  refine lv_iadd hx hb dL_law_1062 ?_
  refine l_sld Xg hX hbl hbA hS in1 hv1 dL_law_1063 ?_
  refine lv_aload_n hx hb dL_law_1064 rfl (lv_at hl 3 rfl) ?_
  refine lv_iload_n hx hb dL_law_1065 rfl (lv_at hl 0 rfl) ?_
  refine lv_iconst (v := (2 : Int32)) hx hb dL_law_1066 (by decide) ?_
  refine lv_iadd hx hb dL_law_1067 ?_
  refine l_sld Xg hX hbl hbA hS in2 hv2 dL_law_1068 ?_
  refine g_vi (rest := [.int R.1]) (G := bm B (wX B R.2)) Xg (hE0.2 R.2) (toM hP) hS (tcX9_judge l _ M _ _ f2) (g_cwV Xg gL_law_X9_judge rfl hdL_X9_judge ⟨(Nat.le_of_ble_eq_true rfl), (Nat.le_of_ble_eq_true rfl)⟩) (rcM_model (hE0.2 R.2) (toM hP)) rfl hl.1 rfl (Nat.le_of_ble_eq_true rfl) dL_law_1069 hcs (fun H locs hP hS => ?_)
  have hP : va_P B.1 vwCl (wX B R.2 ++ wM B R'.2) H := ofM hP
  exact lv_icmp_eq (tgt := 1330) hx hb dL_law_1072 (by decide) (fun _ => kk _ _ _ _ hR' hP hS) (fun c1 => absurd hE c1)
theorem hdL_X8_closes : yX8_closes.cls = RX8 ∧ yX8_closes.cls ≠ "java/lang/invoke/MethodHandle" ∧ yX8_closes.cls ≠ "java/lang/invoke/VarHandle" ∧ (parseMethodDescriptor yX8_closes.desc).map (fun d => d.parameters.length) = some 2 := by decide +kernel
theorem hdL_X9_closes : yX9_closes.cls = RX9 ∧ yX9_closes.cls ≠ "java/lang/invoke/MethodHandle" ∧ yX9_closes.cls ≠ "java/lang/invoke/VarHandle" ∧ (parseMethodDescriptor yX9_closes.desc).map (fun d => d.parameters.length) = some 2 := by decide +kernel
set_option maxHeartbeats 4000000 in
set_option maxRecDepth 20000 in
theorem law_c26 (Xg : GX p s m meth c #[Value.ref b] cL_law 4 ret wsL_law RL) (hE0 : LEv B s) (hX : va_X b L xs s s.heap) (hbl : b < s.heap.size) (hbA : ¬ lA B b) (hR : Rel X M) (hP : va_P B.1 vwCl (wX B X ++ wM B M) H) (hS : va_S (lA B) s.heap H locs) (hl : lv_has ls 4 [(3, .int (nI i)), (2, .ref (B.2.2.2.2.1 63)), (1, .ref (B.2.2.2.1 63)), (0, .ref b)]) (hcs : cells ≤ room_1.cells ∧ slots ≤ room_1.slots) {v1 : Int32} (in1 : vp_in (nI i + 1) L) (hv1 : xs (nI i + 1).toNatClampNeg = v1) {v2 : Int32} (in2 : vp_in (nI i + 2) L) (hv2 : xs (nI i + 2).toNatClampNeg = v2) (kk : ∀ (X' M' : GS) (H1 : Heap) (locs1 : List Loc), Rel X' M' → va_P B.1 vwCl (wX B X' ++ wM B M') H1 → va_S (lA B) s.heap H1 locs1 → W p l e room_1 s m #[Value.ref b] below meth c H1 locs1 cells slots Q (F0 m 1330 ls [])) : W p l e room_1 s m #[Value.ref b] below meth c H locs cells slots Q (F0 m 1077 ls []) := by
  obtain ⟨hx, hb, -, -, hown, hts, -⟩ := id Xg
  obtain ⟨R, R', f1, f2, hE, hR'⟩ := s_closes hR (v1) (v2)
  refine lv_aload_n hx hb dL_law_1077 rfl (lv_at hl 2 rfl) ?_
  refine lv_aload_n hx hb dL_law_1078 rfl (lv_at hl 3 rfl) ?_
  refine lv_iload_n hx hb dL_law_1079 rfl (lv_at hl 0 rfl) ?_
  refine lv_iconst (v := (1 : Int32)) hx hb dL_law_1080 (by decide) ?_
  refine lv_iadd hx hb dL_law_1081 ?_
  refine l_sld Xg hX hbl hbA hS in1 hv1 dL_law_1082 ?_
  refine lv_aload_n hx hb dL_law_1083 rfl (lv_at hl 3 rfl) ?_
  refine lv_iload_n hx hb dL_law_1084 rfl (lv_at hl 0 rfl) ?_
  refine lv_iconst (v := (2 : Int32)) hx hb dL_law_1085 (by decide) ?_
  refine lv_iadd hx hb dL_law_1086 ?_
  refine l_sld Xg hX hbl hbA hS in2 hv2 dL_law_1087 ?_
  refine g_vi (rest := []) (G := bx B (wM B M)) Xg (hE0.1 M) (toX hP) hS (tcX8_closes l _ X _ _ f1) (g_cwV Xg gL_law_X8_closes rfl hdL_X8_closes ⟨(Nat.le_of_ble_eq_true rfl), (Nat.le_of_ble_eq_true rfl)⟩) (rcX_main (hE0.1 M) (toX hP)) rfl hl.1 rfl (Nat.le_of_ble_eq_true rfl) dL_law_1088 hcs (fun H locs hP hS => ?_)
  have hP : va_P B.1 vwCl (wX B R.2 ++ wM B M) H := ofX hP
  refine lv_aload_n hx hb dL_law_1091 rfl (lv_at hl 1 rfl) ?_
  refine lv_aload_n hx hb dL_law_1092 rfl (lv_at hl 3 rfl) ?_
  refine lv_iload_n hx hb dL_law_1093 rfl (lv_at hl 0 rfl) ?_
  refine lv_iconst (v := (1 : Int32)) hx hb dL_law_1094 (by decide) ?_
  refine lv_iadd hx hb dL_law_1095 ?_
  refine l_sld Xg hX hbl hbA hS in1 hv1 dL_law_1096 ?_
  refine lv_aload_n hx hb dL_law_1097 rfl (lv_at hl 3 rfl) ?_
  refine lv_iload_n hx hb dL_law_1098 rfl (lv_at hl 0 rfl) ?_
  refine lv_iconst (v := (2 : Int32)) hx hb dL_law_1099 (by decide) ?_
  refine lv_iadd hx hb dL_law_1100 ?_
  refine l_sld Xg hX hbl hbA hS in2 hv2 dL_law_1101 ?_
  refine g_vi (rest := [.int R.1]) (G := bm B (wX B R.2)) Xg (hE0.2 R.2) (toM hP) hS (tcX9_closes l _ M _ _ f2) (g_cwV Xg gL_law_X9_closes rfl hdL_X9_closes ⟨(Nat.le_of_ble_eq_true rfl), (Nat.le_of_ble_eq_true rfl)⟩) (rcM_model (hE0.2 R.2) (toM hP)) rfl hl.1 rfl (Nat.le_of_ble_eq_true rfl) dL_law_1102 hcs (fun H locs hP hS => ?_)
  have hP : va_P B.1 vwCl (wX B R.2 ++ wM B R'.2) H := ofM hP
  exact lv_icmp_eq (tgt := 1330) hx hb dL_law_1105 (by decide) (fun _ => kk _ _ _ _ hR' hP hS) (fun c1 => absurd hE c1)
theorem hdL_X8_done : yX8_done.cls = RX8 ∧ yX8_done.cls ≠ "java/lang/invoke/MethodHandle" ∧ yX8_done.cls ≠ "java/lang/invoke/VarHandle" ∧ (parseMethodDescriptor yX8_done.desc).map (fun d => d.parameters.length) = some 2 := by decide +kernel
theorem hdL_X9_done : yX9_done.cls = RX9 ∧ yX9_done.cls ≠ "java/lang/invoke/MethodHandle" ∧ yX9_done.cls ≠ "java/lang/invoke/VarHandle" ∧ (parseMethodDescriptor yX9_done.desc).map (fun d => d.parameters.length) = some 2 := by decide +kernel
set_option maxHeartbeats 4000000 in
set_option maxRecDepth 20000 in
theorem law_c27 (Xg : GX p s m meth c #[Value.ref b] cL_law 4 ret wsL_law RL) (hE0 : LEv B s) (hX : va_X b L xs s s.heap) (hbl : b < s.heap.size) (hbA : ¬ lA B b) (hR : Rel X M) (hP : va_P B.1 vwCl (wX B X ++ wM B M) H) (hS : va_S (lA B) s.heap H locs) (hl : lv_has ls 4 [(3, .int (nI i)), (2, .ref (B.2.2.2.2.1 63)), (1, .ref (B.2.2.2.1 63)), (0, .ref b)]) (hcs : cells ≤ room_1.cells ∧ slots ≤ room_1.slots) {v1 : Int32} (in1 : vp_in (nI i + 1) L) (hv1 : xs (nI i + 1).toNatClampNeg = v1) {v2 : Int32} (in2 : vp_in (nI i + 2) L) (hv2 : xs (nI i + 2).toNatClampNeg = v2) (kk : ∀ (X' M' : GS) (H1 : Heap) (locs1 : List Loc), Rel X' M' → va_P B.1 vwCl (wX B X' ++ wM B M') H1 → va_S (lA B) s.heap H1 locs1 → W p l e room_1 s m #[Value.ref b] below meth c H1 locs1 cells slots Q (F0 m 1330 ls [])) : W p l e room_1 s m #[Value.ref b] below meth c H locs cells slots Q (F0 m 1110 ls []) := by
  obtain ⟨hx, hb, -, -, hown, hts, -⟩ := id Xg
  obtain ⟨R, R', f1, f2, hE, hR'⟩ := s_done hR (v1) (v2)
  refine lv_aload_n hx hb dL_law_1110 rfl (lv_at hl 2 rfl) ?_
  refine lv_aload_n hx hb dL_law_1111 rfl (lv_at hl 3 rfl) ?_
  refine lv_iload_n hx hb dL_law_1112 rfl (lv_at hl 0 rfl) ?_
  refine lv_iconst (v := (1 : Int32)) hx hb dL_law_1113 (by decide) ?_
  refine lv_iadd hx hb dL_law_1114 ?_
  refine l_sld Xg hX hbl hbA hS in1 hv1 dL_law_1115 ?_
  refine lv_aload_n hx hb dL_law_1116 rfl (lv_at hl 3 rfl) ?_
  refine lv_iload_n hx hb dL_law_1117 rfl (lv_at hl 0 rfl) ?_
  refine lv_iconst (v := (2 : Int32)) hx hb dL_law_1118 (by decide) ?_
  refine lv_iadd hx hb dL_law_1119 ?_
  refine l_sld Xg hX hbl hbA hS in2 hv2 dL_law_1120 ?_
  refine g_vi (rest := []) (G := bx B (wM B M)) Xg (hE0.1 M) (toX hP) hS (tcX8_done l _ X _ _ f1) (g_cwV Xg gL_law_X8_done rfl hdL_X8_done ⟨(Nat.le_of_ble_eq_true rfl), (Nat.le_of_ble_eq_true rfl)⟩) (rcX_main (hE0.1 M) (toX hP)) rfl hl.1 rfl (Nat.le_of_ble_eq_true rfl) dL_law_1121 hcs (fun H locs hP hS => ?_)
  have hP : va_P B.1 vwCl (wX B R.2 ++ wM B M) H := ofX hP
  refine lv_aload_n hx hb dL_law_1124 rfl (lv_at hl 1 rfl) ?_
  refine lv_aload_n hx hb dL_law_1125 rfl (lv_at hl 3 rfl) ?_
  refine lv_iload_n hx hb dL_law_1126 rfl (lv_at hl 0 rfl) ?_
  refine lv_iconst (v := (1 : Int32)) hx hb dL_law_1127 (by decide) ?_
  refine lv_iadd hx hb dL_law_1128 ?_
  refine l_sld Xg hX hbl hbA hS in1 hv1 dL_law_1129 ?_
  refine lv_aload_n hx hb dL_law_1130 rfl (lv_at hl 3 rfl) ?_
  refine lv_iload_n hx hb dL_law_1131 rfl (lv_at hl 0 rfl) ?_
  refine lv_iconst (v := (2 : Int32)) hx hb dL_law_1132 (by decide) ?_
  refine lv_iadd hx hb dL_law_1133 ?_
  refine l_sld Xg hX hbl hbA hS in2 hv2 dL_law_1134 ?_
  refine g_vi (rest := [.int R.1]) (G := bm B (wX B R.2)) Xg (hE0.2 R.2) (toM hP) hS (tcX9_done l _ M _ _ f2) (g_cwV Xg gL_law_X9_done rfl hdL_X9_done ⟨(Nat.le_of_ble_eq_true rfl), (Nat.le_of_ble_eq_true rfl)⟩) (rcM_model (hE0.2 R.2) (toM hP)) rfl hl.1 rfl (Nat.le_of_ble_eq_true rfl) dL_law_1135 hcs (fun H locs hP hS => ?_)
  have hP : va_P B.1 vwCl (wX B R.2 ++ wM B R'.2) H := ofM hP
  exact lv_icmp_eq (tgt := 1330) hx hb dL_law_1138 (by decide) (fun _ => kk _ _ _ _ hR' hP hS) (fun c1 => absurd hE c1)
theorem hdL_X8_drop : yX8_drop.cls = RX8 ∧ yX8_drop.cls ≠ "java/lang/invoke/MethodHandle" ∧ yX8_drop.cls ≠ "java/lang/invoke/VarHandle" ∧ (parseMethodDescriptor yX8_drop.desc).map (fun d => d.parameters.length) = some 0 := by decide +kernel
theorem hdL_X9_drop : yX9_drop.cls = RX9 ∧ yX9_drop.cls ≠ "java/lang/invoke/MethodHandle" ∧ yX9_drop.cls ≠ "java/lang/invoke/VarHandle" ∧ (parseMethodDescriptor yX9_drop.desc).map (fun d => d.parameters.length) = some 0 := by decide +kernel
set_option maxHeartbeats 4000000 in
set_option maxRecDepth 20000 in
theorem law_c28 (Xg : GX p s m meth c #[Value.ref b] cL_law 4 ret wsL_law RL) (hE0 : LEv B s) (hX : va_X b L xs s s.heap) (hbl : b < s.heap.size) (hbA : ¬ lA B b) (hR : Rel X M) (hP : va_P B.1 vwCl (wX B X ++ wM B M) H) (hS : va_S (lA B) s.heap H locs) (hl : lv_has ls 4 [(3, .int (nI i)), (2, .ref (B.2.2.2.2.1 63)), (1, .ref (B.2.2.2.1 63)), (0, .ref b)]) (hcs : cells ≤ room_1.cells ∧ slots ≤ room_1.slots)  (kk : ∀ (X' M' : GS) (H1 : Heap) (locs1 : List Loc), Rel X' M' → va_P B.1 vwCl (wX B X' ++ wM B M') H1 → va_S (lA B) s.heap H1 locs1 → W p l e room_1 s m #[Value.ref b] below meth c H1 locs1 cells slots Q (F0 m 1330 ls [])) : W p l e room_1 s m #[Value.ref b] below meth c H locs cells slots Q (F0 m 1143 ls []) := by
  obtain ⟨hx, hb, -, -, hown, hts, -⟩ := id Xg
  obtain ⟨R, R', f1, f2, hE, hR'⟩ := s_drop hR 
  refine lv_aload_n hx hb dL_law_1143 rfl (lv_at hl 2 rfl) ?_
  refine g_vi (rest := []) (G := bx B (wM B M)) Xg (hE0.1 M) (toX hP) hS (tcX8_drop l _ X  f1) (g_cwV Xg gL_law_X8_drop rfl hdL_X8_drop ⟨(Nat.le_of_ble_eq_true rfl), (Nat.le_of_ble_eq_true rfl)⟩) (rcX_main (hE0.1 M) (toX hP)) rfl hl.1 rfl (Nat.le_of_ble_eq_true rfl) dL_law_1144 hcs (fun H locs hP hS => ?_)
  have hP : va_P B.1 vwCl (wX B R.2 ++ wM B M) H := ofX hP
  refine lv_aload_n hx hb dL_law_1147 rfl (lv_at hl 1 rfl) ?_
  refine g_vi (rest := [.int R.1]) (G := bm B (wX B R.2)) Xg (hE0.2 R.2) (toM hP) hS (tcX9_drop l _ M  f2) (g_cwV Xg gL_law_X9_drop rfl hdL_X9_drop ⟨(Nat.le_of_ble_eq_true rfl), (Nat.le_of_ble_eq_true rfl)⟩) (rcM_model (hE0.2 R.2) (toM hP)) rfl hl.1 rfl (Nat.le_of_ble_eq_true rfl) dL_law_1148 hcs (fun H locs hP hS => ?_)
  have hP : va_P B.1 vwCl (wX B R.2 ++ wM B R'.2) H := ofM hP
  exact lv_icmp_eq (tgt := 1330) hx hb dL_law_1151 (by decide) (fun _ => kk _ _ _ _ hR' hP hS) (fun c1 => absurd hE c1)
theorem hdL_X8_turn : yX8_turn.cls = RX8 ∧ yX8_turn.cls ≠ "java/lang/invoke/MethodHandle" ∧ yX8_turn.cls ≠ "java/lang/invoke/VarHandle" ∧ (parseMethodDescriptor yX8_turn.desc).map (fun d => d.parameters.length) = some 0 := by decide +kernel
theorem hdL_X9_turn : yX9_turn.cls = RX9 ∧ yX9_turn.cls ≠ "java/lang/invoke/MethodHandle" ∧ yX9_turn.cls ≠ "java/lang/invoke/VarHandle" ∧ (parseMethodDescriptor yX9_turn.desc).map (fun d => d.parameters.length) = some 0 := by decide +kernel
set_option maxHeartbeats 4000000 in
set_option maxRecDepth 20000 in
theorem law_c29 (Xg : GX p s m meth c #[Value.ref b] cL_law 4 ret wsL_law RL) (hE0 : LEv B s) (hX : va_X b L xs s s.heap) (hbl : b < s.heap.size) (hbA : ¬ lA B b) (hR : Rel X M) (hP : va_P B.1 vwCl (wX B X ++ wM B M) H) (hS : va_S (lA B) s.heap H locs) (hl : lv_has ls 4 [(3, .int (nI i)), (2, .ref (B.2.2.2.2.1 63)), (1, .ref (B.2.2.2.1 63)), (0, .ref b)]) (hcs : cells ≤ room_1.cells ∧ slots ≤ room_1.slots)  (kk : ∀ (X' M' : GS) (H1 : Heap) (locs1 : List Loc), Rel X' M' → va_P B.1 vwCl (wX B X' ++ wM B M') H1 → va_S (lA B) s.heap H1 locs1 → W p l e room_1 s m #[Value.ref b] below meth c H1 locs1 cells slots Q (F0 m 1330 ls [])) : W p l e room_1 s m #[Value.ref b] below meth c H locs cells slots Q (F0 m 1156 ls []) := by
  obtain ⟨hx, hb, -, -, hown, hts, -⟩ := id Xg
  obtain ⟨R, R', f1, f2, hE, hR'⟩ := s_turn hR 
  refine lv_aload_n hx hb dL_law_1156 rfl (lv_at hl 2 rfl) ?_
  refine g_vi (rest := []) (G := bx B (wM B M)) Xg (hE0.1 M) (toX hP) hS (tcX8_turn l _ X  f1) (g_cwV Xg gL_law_X8_turn rfl hdL_X8_turn ⟨(Nat.le_of_ble_eq_true rfl), (Nat.le_of_ble_eq_true rfl)⟩) (rcX_main (hE0.1 M) (toX hP)) rfl hl.1 rfl (Nat.le_of_ble_eq_true rfl) dL_law_1157 hcs (fun H locs hP hS => ?_)
  have hP : va_P B.1 vwCl (wX B R.2 ++ wM B M) H := ofX hP
  refine lv_aload_n hx hb dL_law_1160 rfl (lv_at hl 1 rfl) ?_
  refine g_vi (rest := [.int R.1]) (G := bm B (wX B R.2)) Xg (hE0.2 R.2) (toM hP) hS (tcX9_turn l _ M  f2) (g_cwV Xg gL_law_X9_turn rfl hdL_X9_turn ⟨(Nat.le_of_ble_eq_true rfl), (Nat.le_of_ble_eq_true rfl)⟩) (rcM_model (hE0.2 R.2) (toM hP)) rfl hl.1 rfl (Nat.le_of_ble_eq_true rfl) dL_law_1161 hcs (fun H locs hP hS => ?_)
  have hP : va_P B.1 vwCl (wX B R.2 ++ wM B R'.2) H := ofM hP
  exact lv_icmp_eq (tgt := 1330) hx hb dL_law_1164 (by decide) (fun _ => kk _ _ _ _ hR' hP hS) (fun c1 => absurd hE c1)
theorem hdL_X8_seasons : yX8_seasons.cls = RX8 ∧ yX8_seasons.cls ≠ "java/lang/invoke/MethodHandle" ∧ yX8_seasons.cls ≠ "java/lang/invoke/VarHandle" ∧ (parseMethodDescriptor yX8_seasons.desc).map (fun d => d.parameters.length) = some 1 := by decide +kernel
theorem hdL_X9_seasons : yX9_seasons.cls = RX9 ∧ yX9_seasons.cls ≠ "java/lang/invoke/MethodHandle" ∧ yX9_seasons.cls ≠ "java/lang/invoke/VarHandle" ∧ (parseMethodDescriptor yX9_seasons.desc).map (fun d => d.parameters.length) = some 1 := by decide +kernel
set_option maxHeartbeats 4000000 in
set_option maxRecDepth 20000 in
theorem law_c30 (Xg : GX p s m meth c #[Value.ref b] cL_law 4 ret wsL_law RL) (hE0 : LEv B s) (hX : va_X b L xs s s.heap) (hbl : b < s.heap.size) (hbA : ¬ lA B b) (hR : Rel X M) (hP : va_P B.1 vwCl (wX B X ++ wM B M) H) (hS : va_S (lA B) s.heap H locs) (hl : lv_has ls 4 [(3, .int (nI i)), (2, .ref (B.2.2.2.2.1 63)), (1, .ref (B.2.2.2.1 63)), (0, .ref b)]) (hcs : cells ≤ room_1.cells ∧ slots ≤ room_1.slots) {v1 : Int32} (in1 : vp_in (nI i + 1) L) (hv1 : xs (nI i + 1).toNatClampNeg = v1) (kk : ∀ (X' M' : GS) (H1 : Heap) (locs1 : List Loc), Rel X' M' → va_P B.1 vwCl (wX B X' ++ wM B M') H1 → va_S (lA B) s.heap H1 locs1 → W p l e room_1 s m #[Value.ref b] below meth c H1 locs1 cells slots Q (F0 m 1330 ls [])) : W p l e room_1 s m #[Value.ref b] below meth c H locs cells slots Q (F0 m 1169 ls []) := by
  obtain ⟨hx, hb, -, -, hown, hts, -⟩ := id Xg
  obtain ⟨R, R', f1, f2, hE, hR'⟩ := s_seasons hR (v1)
  refine lv_aload_n hx hb dL_law_1169 rfl (lv_at hl 2 rfl) ?_
  refine lv_aload_n hx hb dL_law_1170 rfl (lv_at hl 3 rfl) ?_
  refine lv_iload_n hx hb dL_law_1171 rfl (lv_at hl 0 rfl) ?_
  refine lv_iconst (v := (1 : Int32)) hx hb dL_law_1172 (by decide) ?_
  refine lv_iadd hx hb dL_law_1173 ?_
  refine l_sld Xg hX hbl hbA hS in1 hv1 dL_law_1174 ?_
  refine g_vi (rest := []) (G := bx B (wM B M)) Xg (hE0.1 M) (toX hP) hS (tcX8_seasons l _ X _ f1) (g_cwV Xg gL_law_X8_seasons rfl hdL_X8_seasons ⟨(Nat.le_of_ble_eq_true rfl), (Nat.le_of_ble_eq_true rfl)⟩) (rcX_main (hE0.1 M) (toX hP)) rfl hl.1 rfl (Nat.le_of_ble_eq_true rfl) dL_law_1175 hcs (fun H locs hP hS => ?_)
  have hP : va_P B.1 vwCl (wX B R.2 ++ wM B M) H := ofX hP
  refine lv_aload_n hx hb dL_law_1178 rfl (lv_at hl 1 rfl) ?_
  refine lv_aload_n hx hb dL_law_1179 rfl (lv_at hl 3 rfl) ?_
  refine lv_iload_n hx hb dL_law_1180 rfl (lv_at hl 0 rfl) ?_
  refine lv_iconst (v := (1 : Int32)) hx hb dL_law_1181 (by decide) ?_
  refine lv_iadd hx hb dL_law_1182 ?_
  refine l_sld Xg hX hbl hbA hS in1 hv1 dL_law_1183 ?_
  refine g_vi (rest := [.int R.1]) (G := bm B (wX B R.2)) Xg (hE0.2 R.2) (toM hP) hS (tcX9_seasons l _ M _ f2) (g_cwV Xg gL_law_X9_seasons rfl hdL_X9_seasons ⟨(Nat.le_of_ble_eq_true rfl), (Nat.le_of_ble_eq_true rfl)⟩) (rcM_model (hE0.2 R.2) (toM hP)) rfl hl.1 rfl (Nat.le_of_ble_eq_true rfl) dL_law_1184 hcs (fun H locs hP hS => ?_)
  have hP : va_P B.1 vwCl (wX B R.2 ++ wM B R'.2) H := ofM hP
  exact lv_icmp_eq (tgt := 1330) hx hb dL_law_1187 (by decide) (fun _ => kk _ _ _ _ hR' hP hS) (fun c1 => absurd hE c1)
theorem hdL_X8_seed : yX8_seed.cls = RX8 ∧ yX8_seed.cls ≠ "java/lang/invoke/MethodHandle" ∧ yX8_seed.cls ≠ "java/lang/invoke/VarHandle" ∧ (parseMethodDescriptor yX8_seed.desc).map (fun d => d.parameters.length) = some 1 := by decide +kernel
theorem hdL_X9_seed : yX9_seed.cls = RX9 ∧ yX9_seed.cls ≠ "java/lang/invoke/MethodHandle" ∧ yX9_seed.cls ≠ "java/lang/invoke/VarHandle" ∧ (parseMethodDescriptor yX9_seed.desc).map (fun d => d.parameters.length) = some 1 := by decide +kernel
set_option maxHeartbeats 4000000 in
set_option maxRecDepth 20000 in
theorem law_c31 (Xg : GX p s m meth c #[Value.ref b] cL_law 4 ret wsL_law RL) (hE0 : LEv B s) (hX : va_X b L xs s s.heap) (hbl : b < s.heap.size) (hbA : ¬ lA B b) (hR : Rel X M) (hP : va_P B.1 vwCl (wX B X ++ wM B M) H) (hS : va_S (lA B) s.heap H locs) (hl : lv_has ls 4 [(3, .int (nI i)), (2, .ref (B.2.2.2.2.1 63)), (1, .ref (B.2.2.2.1 63)), (0, .ref b)]) (hcs : cells ≤ room_1.cells ∧ slots ≤ room_1.slots) {v1 : Int32} (in1 : vp_in (nI i + 1) L) (hv1 : xs (nI i + 1).toNatClampNeg = v1) (kk : ∀ (X' M' : GS) (H1 : Heap) (locs1 : List Loc), Rel X' M' → va_P B.1 vwCl (wX B X' ++ wM B M') H1 → va_S (lA B) s.heap H1 locs1 → W p l e room_1 s m #[Value.ref b] below meth c H1 locs1 cells slots Q (F0 m 1330 ls [])) : W p l e room_1 s m #[Value.ref b] below meth c H locs cells slots Q (F0 m 1192 ls []) := by
  obtain ⟨hx, hb, -, -, hown, hts, -⟩ := id Xg
  obtain ⟨R, R', f1, f2, hE, hR'⟩ := s_seed hR (v1)
  refine lv_aload_n hx hb dL_law_1192 rfl (lv_at hl 2 rfl) ?_
  refine lv_aload_n hx hb dL_law_1193 rfl (lv_at hl 3 rfl) ?_
  refine lv_iload_n hx hb dL_law_1194 rfl (lv_at hl 0 rfl) ?_
  refine lv_iconst (v := (1 : Int32)) hx hb dL_law_1195 (by decide) ?_
  refine lv_iadd hx hb dL_law_1196 ?_
  refine l_sld Xg hX hbl hbA hS in1 hv1 dL_law_1197 ?_
  refine g_vi (rest := []) (G := bx B (wM B M)) Xg (hE0.1 M) (toX hP) hS (tcX8_seed l _ X _ f1) (g_cwV Xg gL_law_X8_seed rfl hdL_X8_seed ⟨(Nat.le_of_ble_eq_true rfl), (Nat.le_of_ble_eq_true rfl)⟩) (rcX_main (hE0.1 M) (toX hP)) rfl hl.1 rfl (Nat.le_of_ble_eq_true rfl) dL_law_1198 hcs (fun H locs hP hS => ?_)
  have hP : va_P B.1 vwCl (wX B R.2 ++ wM B M) H := ofX hP
  refine lv_aload_n hx hb dL_law_1201 rfl (lv_at hl 1 rfl) ?_
  refine lv_aload_n hx hb dL_law_1202 rfl (lv_at hl 3 rfl) ?_
  refine lv_iload_n hx hb dL_law_1203 rfl (lv_at hl 0 rfl) ?_
  refine lv_iconst (v := (1 : Int32)) hx hb dL_law_1204 (by decide) ?_
  refine lv_iadd hx hb dL_law_1205 ?_
  refine l_sld Xg hX hbl hbA hS in1 hv1 dL_law_1206 ?_
  refine g_vi (rest := [.int R.1]) (G := bm B (wX B R.2)) Xg (hE0.2 R.2) (toM hP) hS (tcX9_seed l _ M _ f2) (g_cwV Xg gL_law_X9_seed rfl hdL_X9_seed ⟨(Nat.le_of_ble_eq_true rfl), (Nat.le_of_ble_eq_true rfl)⟩) (rcM_model (hE0.2 R.2) (toM hP)) rfl hl.1 rfl (Nat.le_of_ble_eq_true rfl) dL_law_1207 hcs (fun H locs hP hS => ?_)
  have hP : va_P B.1 vwCl (wX B R.2 ++ wM B R'.2) H := ofM hP
  exact lv_icmp_eq (tgt := 1330) hx hb dL_law_1210 (by decide) (fun _ => kk _ _ _ _ hR' hP hS) (fun c1 => absurd hE c1)
theorem hdL_X8_act : yX8_act.cls = RX8 ∧ yX8_act.cls ≠ "java/lang/invoke/MethodHandle" ∧ yX8_act.cls ≠ "java/lang/invoke/VarHandle" ∧ (parseMethodDescriptor yX8_act.desc).map (fun d => d.parameters.length) = some 3 := by decide +kernel
theorem hdL_X9_act : yX9_act.cls = RX9 ∧ yX9_act.cls ≠ "java/lang/invoke/MethodHandle" ∧ yX9_act.cls ≠ "java/lang/invoke/VarHandle" ∧ (parseMethodDescriptor yX9_act.desc).map (fun d => d.parameters.length) = some 3 := by decide +kernel
set_option maxHeartbeats 4000000 in
set_option maxRecDepth 20000 in
theorem law_c32 (Xg : GX p s m meth c #[Value.ref b] cL_law 4 ret wsL_law RL) (hE0 : LEv B s) (hX : va_X b L xs s s.heap) (hbl : b < s.heap.size) (hbA : ¬ lA B b) (hR : Rel X M) (hP : va_P B.1 vwCl (wX B X ++ wM B M) H) (hS : va_S (lA B) s.heap H locs) (hl : lv_has ls 4 [(3, .int (nI i)), (2, .ref (B.2.2.2.2.1 63)), (1, .ref (B.2.2.2.1 63)), (0, .ref b)]) (hcs : cells ≤ room_1.cells ∧ slots ≤ room_1.slots) {v1 : Int32} (in1 : vp_in (nI i + 1) L) (hv1 : xs (nI i + 1).toNatClampNeg = v1) {v2 : Int32} (in2 : vp_in (nI i + 2) L) (hv2 : xs (nI i + 2).toNatClampNeg = v2) {v3 : Int32} (in3 : vp_in (nI i + 3) L) (hv3 : xs (nI i + 3).toNatClampNeg = v3) (kk : ∀ (X' M' : GS) (H1 : Heap) (locs1 : List Loc), Rel X' M' → va_P B.1 vwCl (wX B X' ++ wM B M') H1 → va_S (lA B) s.heap H1 locs1 → W p l e room_1 s m #[Value.ref b] below meth c H1 locs1 cells slots Q (F0 m 1330 ls [])) : W p l e room_1 s m #[Value.ref b] below meth c H locs cells slots Q (F0 m 1215 ls []) := by
  obtain ⟨hx, hb, -, -, hown, hts, -⟩ := id Xg
  obtain ⟨R, R', f1, f2, hE, hR'⟩ := s_act hR (v1) (v2) (v3)
  refine lv_aload_n hx hb dL_law_1215 rfl (lv_at hl 2 rfl) ?_
  refine lv_aload_n hx hb dL_law_1216 rfl (lv_at hl 3 rfl) ?_
  refine lv_iload_n hx hb dL_law_1217 rfl (lv_at hl 0 rfl) ?_
  refine lv_iconst (v := (1 : Int32)) hx hb dL_law_1218 (by decide) ?_
  refine lv_iadd hx hb dL_law_1219 ?_
  refine l_sld Xg hX hbl hbA hS in1 hv1 dL_law_1220 ?_
  refine lv_aload_n hx hb dL_law_1221 rfl (lv_at hl 3 rfl) ?_
  refine lv_iload_n hx hb dL_law_1222 rfl (lv_at hl 0 rfl) ?_
  refine lv_iconst (v := (2 : Int32)) hx hb dL_law_1223 (by decide) ?_
  refine lv_iadd hx hb dL_law_1224 ?_
  refine l_sld Xg hX hbl hbA hS in2 hv2 dL_law_1225 ?_
  refine lv_aload_n hx hb dL_law_1226 rfl (lv_at hl 3 rfl) ?_
  refine lv_iload_n hx hb dL_law_1227 rfl (lv_at hl 0 rfl) ?_
  refine lv_iconst (v := (3 : Int32)) hx hb dL_law_1228 (by decide) ?_
  refine lv_iadd hx hb dL_law_1229 ?_
  refine l_sld Xg hX hbl hbA hS in3 hv3 dL_law_1230 ?_
  refine g_vi (rest := []) (G := bx B (wM B M)) Xg (hE0.1 M) (toX hP) hS (tcX8_act l _ X _ _ _ f1) (g_cwV Xg gL_law_X8_act rfl hdL_X8_act ⟨(Nat.le_of_ble_eq_true rfl), (Nat.le_of_ble_eq_true rfl)⟩) (rcX_main (hE0.1 M) (toX hP)) rfl hl.1 rfl (Nat.le_of_ble_eq_true rfl) dL_law_1231 hcs (fun H locs hP hS => ?_)
  have hP : va_P B.1 vwCl (wX B R.2 ++ wM B M) H := ofX hP
  refine lv_aload_n hx hb dL_law_1234 rfl (lv_at hl 1 rfl) ?_
  refine lv_aload_n hx hb dL_law_1235 rfl (lv_at hl 3 rfl) ?_
  refine lv_iload_n hx hb dL_law_1236 rfl (lv_at hl 0 rfl) ?_
  refine lv_iconst (v := (1 : Int32)) hx hb dL_law_1237 (by decide) ?_
  refine lv_iadd hx hb dL_law_1238 ?_
  refine l_sld Xg hX hbl hbA hS in1 hv1 dL_law_1239 ?_
  refine lv_aload_n hx hb dL_law_1240 rfl (lv_at hl 3 rfl) ?_
  refine lv_iload_n hx hb dL_law_1241 rfl (lv_at hl 0 rfl) ?_
  refine lv_iconst (v := (2 : Int32)) hx hb dL_law_1242 (by decide) ?_
  refine lv_iadd hx hb dL_law_1243 ?_
  refine l_sld Xg hX hbl hbA hS in2 hv2 dL_law_1244 ?_
  refine lv_aload_n hx hb dL_law_1245 rfl (lv_at hl 3 rfl) ?_
  refine lv_iload_n hx hb dL_law_1246 rfl (lv_at hl 0 rfl) ?_
  refine lv_iconst (v := (3 : Int32)) hx hb dL_law_1247 (by decide) ?_
  refine lv_iadd hx hb dL_law_1248 ?_
  refine l_sld Xg hX hbl hbA hS in3 hv3 dL_law_1249 ?_
  refine g_vi (rest := [.int R.1]) (G := bm B (wX B R.2)) Xg (hE0.2 R.2) (toM hP) hS (tcX9_act l _ M _ _ _ f2) (g_cwV Xg gL_law_X9_act rfl hdL_X9_act ⟨(Nat.le_of_ble_eq_true rfl), (Nat.le_of_ble_eq_true rfl)⟩) (rcM_model (hE0.2 R.2) (toM hP)) rfl hl.1 rfl (Nat.le_of_ble_eq_true rfl) dL_law_1250 hcs (fun H locs hP hS => ?_)
  have hP : va_P B.1 vwCl (wX B R.2 ++ wM B R'.2) H := ofM hP
  exact lv_icmp_eq (tgt := 1330) hx hb dL_law_1253 (by decide) (fun _ => kk _ _ _ _ hR' hP hS) (fun c1 => absurd hE c1)
theorem hdL_X8_trace : yX8_trace.cls = RX8 ∧ yX8_trace.cls ≠ "java/lang/invoke/MethodHandle" ∧ yX8_trace.cls ≠ "java/lang/invoke/VarHandle" ∧ (parseMethodDescriptor yX8_trace.desc).map (fun d => d.parameters.length) = some 1 := by decide +kernel
theorem hdL_X9_trace : yX9_trace.cls = RX9 ∧ yX9_trace.cls ≠ "java/lang/invoke/MethodHandle" ∧ yX9_trace.cls ≠ "java/lang/invoke/VarHandle" ∧ (parseMethodDescriptor yX9_trace.desc).map (fun d => d.parameters.length) = some 1 := by decide +kernel
set_option maxHeartbeats 4000000 in
set_option maxRecDepth 20000 in
theorem law_c33 (Xg : GX p s m meth c #[Value.ref b] cL_law 4 ret wsL_law RL) (hE0 : LEv B s) (hX : va_X b L xs s s.heap) (hbl : b < s.heap.size) (hbA : ¬ lA B b) (hR : Rel X M) (hP : va_P B.1 vwCl (wX B X ++ wM B M) H) (hS : va_S (lA B) s.heap H locs) (hl : lv_has ls 4 [(3, .int (nI i)), (2, .ref (B.2.2.2.2.1 63)), (1, .ref (B.2.2.2.1 63)), (0, .ref b)]) (hcs : cells ≤ room_1.cells ∧ slots ≤ room_1.slots) {v1 : Int32} (in1 : vp_in (nI i + 1) L) (hv1 : xs (nI i + 1).toNatClampNeg = v1) (kk : ∀ (X' M' : GS) (H1 : Heap) (locs1 : List Loc), Rel X' M' → va_P B.1 vwCl (wX B X' ++ wM B M') H1 → va_S (lA B) s.heap H1 locs1 → W p l e room_1 s m #[Value.ref b] below meth c H1 locs1 cells slots Q (F0 m 1330 ls [])) : W p l e room_1 s m #[Value.ref b] below meth c H locs cells slots Q (F0 m 1258 ls []) := by
  obtain ⟨hx, hb, -, -, hown, hts, -⟩ := id Xg
  obtain ⟨r, f1, f2⟩ := s_trace hR (v1)
  refine lv_aload_n hx hb dL_law_1258 rfl (lv_at hl 2 rfl) ?_
  refine lv_aload_n hx hb dL_law_1259 rfl (lv_at hl 3 rfl) ?_
  refine lv_iload_n hx hb dL_law_1260 rfl (lv_at hl 0 rfl) ?_
  refine lv_iconst (v := (1 : Int32)) hx hb dL_law_1261 (by decide) ?_
  refine lv_iadd hx hb dL_law_1262 ?_
  refine l_sld Xg hX hbl hbA hS in1 hv1 dL_law_1263 ?_
  refine g_vi (rest := []) (G := bx B (wM B M)) Xg (hE0.1 M) (toX hP) hS (tcX8_trace l _ X _ f1) (g_cwV Xg gL_law_X8_trace rfl hdL_X8_trace ⟨(Nat.le_of_ble_eq_true rfl), (Nat.le_of_ble_eq_true rfl)⟩) (rcX_main (hE0.1 M) (toX hP)) rfl hl.1 rfl (Nat.le_of_ble_eq_true rfl) dL_law_1264 hcs (fun H locs hP hS => ?_)
  have hP : va_P B.1 vwCl (wX B X ++ wM B M) H := ofX hP
  refine lv_aload_n hx hb dL_law_1267 rfl (lv_at hl 1 rfl) ?_
  refine lv_aload_n hx hb dL_law_1268 rfl (lv_at hl 3 rfl) ?_
  refine lv_iload_n hx hb dL_law_1269 rfl (lv_at hl 0 rfl) ?_
  refine lv_iconst (v := (1 : Int32)) hx hb dL_law_1270 (by decide) ?_
  refine lv_iadd hx hb dL_law_1271 ?_
  refine l_sld Xg hX hbl hbA hS in1 hv1 dL_law_1272 ?_
  refine g_vi (rest := [.int r]) (G := bm B (wX B X)) Xg (hE0.2 X) (toM hP) hS (tcX9_trace l _ M _ f2) (g_cwV Xg gL_law_X9_trace rfl hdL_X9_trace ⟨(Nat.le_of_ble_eq_true rfl), (Nat.le_of_ble_eq_true rfl)⟩) (rcM_model (hE0.2 X) (toM hP)) rfl hl.1 rfl (Nat.le_of_ble_eq_true rfl) dL_law_1273 hcs (fun H locs hP hS => ?_)
  have hP : va_P B.1 vwCl (wX B X ++ wM B M) H := ofM hP
  exact lv_icmp_eq (tgt := 1330) hx hb dL_law_1276 (by decide) (fun _ => kk _ _ _ _ hR hP hS) (fun c1 => absurd rfl c1)
theorem hdL_X8_image : yX8_image.cls = RX8 ∧ yX8_image.cls ≠ "java/lang/invoke/MethodHandle" ∧ yX8_image.cls ≠ "java/lang/invoke/VarHandle" ∧ (parseMethodDescriptor yX8_image.desc).map (fun d => d.parameters.length) = some 0 := by decide +kernel
theorem hdL_X9_image : yX9_image.cls = RX9 ∧ yX9_image.cls ≠ "java/lang/invoke/MethodHandle" ∧ yX9_image.cls ≠ "java/lang/invoke/VarHandle" ∧ (parseMethodDescriptor yX9_image.desc).map (fun d => d.parameters.length) = some 0 := by decide +kernel
set_option maxHeartbeats 4000000 in
set_option maxRecDepth 20000 in
theorem law_c34 (Xg : GX p s m meth c #[Value.ref b] cL_law 4 ret wsL_law RL) (hE0 : LEv B s) (hX : va_X b L xs s s.heap) (hbl : b < s.heap.size) (hbA : ¬ lA B b) (hR : Rel X M) (hP : va_P B.1 vwCl (wX B X ++ wM B M) H) (hS : va_S (lA B) s.heap H locs) (hl : lv_has ls 4 [(3, .int (nI i)), (2, .ref (B.2.2.2.2.1 63)), (1, .ref (B.2.2.2.1 63)), (0, .ref b)]) (hcs : cells ≤ room_1.cells ∧ slots ≤ room_1.slots)  (kk : ∀ (X' M' : GS) (H1 : Heap) (locs1 : List Loc), Rel X' M' → va_P B.1 vwCl (wX B X' ++ wM B M') H1 → va_S (lA B) s.heap H1 locs1 → W p l e room_1 s m #[Value.ref b] below meth c H1 locs1 cells slots Q (F0 m 1330 ls [])) : W p l e room_1 s m #[Value.ref b] below meth c H locs cells slots Q (F0 m 1281 ls []) := by
  obtain ⟨hx, hb, -, -, hown, hts, -⟩ := id Xg
  obtain ⟨R, R', f1, f2, hE, hR'⟩ := s_image hR 
  refine lv_aload_n hx hb dL_law_1281 rfl (lv_at hl 2 rfl) ?_
  refine g_vi (rest := []) (G := bx B (wM B M)) Xg (hE0.1 M) (toX hP) hS (tcX8_image l _ X  f1) (g_cwV Xg gL_law_X8_image rfl hdL_X8_image ⟨(Nat.le_of_ble_eq_true rfl), (Nat.le_of_ble_eq_true rfl)⟩) (rcX_main (hE0.1 M) (toX hP)) rfl hl.1 rfl (Nat.le_of_ble_eq_true rfl) dL_law_1282 hcs (fun H locs hP hS => ?_)
  have hP : va_P B.1 vwCl (wX B R.2 ++ wM B M) H := ofX hP
  refine lv_aload_n hx hb dL_law_1285 rfl (lv_at hl 1 rfl) ?_
  refine g_vi (rest := [.int R.1]) (G := bm B (wX B R.2)) Xg (hE0.2 R.2) (toM hP) hS (tcX9_image l _ M  f2) (g_cwV Xg gL_law_X9_image rfl hdL_X9_image ⟨(Nat.le_of_ble_eq_true rfl), (Nat.le_of_ble_eq_true rfl)⟩) (rcM_model (hE0.2 R.2) (toM hP)) rfl hl.1 rfl (Nat.le_of_ble_eq_true rfl) dL_law_1286 hcs (fun H locs hP hS => ?_)
  have hP : va_P B.1 vwCl (wX B R.2 ++ wM B R'.2) H := ofM hP
  exact lv_icmp_eq (tgt := 1330) hx hb dL_law_1289 (by decide) (fun _ => kk _ _ _ _ hR' hP hS) (fun c1 => absurd hE c1)
theorem hdL_X8_restore : yX8_restore.cls = RX8 ∧ yX8_restore.cls ≠ "java/lang/invoke/MethodHandle" ∧ yX8_restore.cls ≠ "java/lang/invoke/VarHandle" ∧ (parseMethodDescriptor yX8_restore.desc).map (fun d => d.parameters.length) = some 0 := by decide +kernel
theorem hdL_X9_restore : yX9_restore.cls = RX9 ∧ yX9_restore.cls ≠ "java/lang/invoke/MethodHandle" ∧ yX9_restore.cls ≠ "java/lang/invoke/VarHandle" ∧ (parseMethodDescriptor yX9_restore.desc).map (fun d => d.parameters.length) = some 0 := by decide +kernel
set_option maxHeartbeats 4000000 in
set_option maxRecDepth 20000 in
theorem law_c35 (Xg : GX p s m meth c #[Value.ref b] cL_law 4 ret wsL_law RL) (hE0 : LEv B s) (hX : va_X b L xs s s.heap) (hbl : b < s.heap.size) (hbA : ¬ lA B b) (hR : Rel X M) (hP : va_P B.1 vwCl (wX B X ++ wM B M) H) (hS : va_S (lA B) s.heap H locs) (hl : lv_has ls 4 [(3, .int (nI i)), (2, .ref (B.2.2.2.2.1 63)), (1, .ref (B.2.2.2.1 63)), (0, .ref b)]) (hcs : cells ≤ room_1.cells ∧ slots ≤ room_1.slots)  (kk : ∀ (X' M' : GS) (H1 : Heap) (locs1 : List Loc), Rel X' M' → va_P B.1 vwCl (wX B X' ++ wM B M') H1 → va_S (lA B) s.heap H1 locs1 → W p l e room_1 s m #[Value.ref b] below meth c H1 locs1 cells slots Q (F0 m 1330 ls [])) : W p l e room_1 s m #[Value.ref b] below meth c H locs cells slots Q (F0 m 1294 ls []) := by
  obtain ⟨hx, hb, -, -, hown, hts, -⟩ := id Xg
  obtain ⟨R, R', f1, f2, hE, hR'⟩ := s_restore hR 
  refine lv_aload_n hx hb dL_law_1294 rfl (lv_at hl 2 rfl) ?_
  refine g_vi (rest := []) (G := bx B (wM B M)) Xg (hE0.1 M) (toX hP) hS (tcX8_restore l _ X  f1) (g_cwV Xg gL_law_X8_restore rfl hdL_X8_restore ⟨(Nat.le_of_ble_eq_true rfl), (Nat.le_of_ble_eq_true rfl)⟩) (rcX_main (hE0.1 M) (toX hP)) rfl hl.1 rfl (Nat.le_of_ble_eq_true rfl) dL_law_1295 hcs (fun H locs hP hS => ?_)
  have hP : va_P B.1 vwCl (wX B R.2 ++ wM B M) H := ofX hP
  refine lv_aload_n hx hb dL_law_1298 rfl (lv_at hl 1 rfl) ?_
  refine g_vi (rest := [.int R.1]) (G := bm B (wX B R.2)) Xg (hE0.2 R.2) (toM hP) hS (tcX9_restore l _ M  f2) (g_cwV Xg gL_law_X9_restore rfl hdL_X9_restore ⟨(Nat.le_of_ble_eq_true rfl), (Nat.le_of_ble_eq_true rfl)⟩) (rcM_model (hE0.2 R.2) (toM hP)) rfl hl.1 rfl (Nat.le_of_ble_eq_true rfl) dL_law_1299 hcs (fun H locs hP hS => ?_)
  have hP : va_P B.1 vwCl (wX B R.2 ++ wM B R'.2) H := ofM hP
  exact lv_icmp_eq (tgt := 1330) hx hb dL_law_1302 (by decide) (fun _ => kk _ _ _ _ hR' hP hS) (fun c1 => absurd hE c1)
theorem hdL_X8_status : yX8_status.cls = RX8 ∧ yX8_status.cls ≠ "java/lang/invoke/MethodHandle" ∧ yX8_status.cls ≠ "java/lang/invoke/VarHandle" ∧ (parseMethodDescriptor yX8_status.desc).map (fun d => d.parameters.length) = some 1 := by decide +kernel
theorem hdL_X9_status : yX9_status.cls = RX9 ∧ yX9_status.cls ≠ "java/lang/invoke/MethodHandle" ∧ yX9_status.cls ≠ "java/lang/invoke/VarHandle" ∧ (parseMethodDescriptor yX9_status.desc).map (fun d => d.parameters.length) = some 1 := by decide +kernel
set_option maxHeartbeats 4000000 in
set_option maxRecDepth 20000 in
theorem law_c36 (Xg : GX p s m meth c #[Value.ref b] cL_law 4 ret wsL_law RL) (hE0 : LEv B s) (hX : va_X b L xs s s.heap) (hbl : b < s.heap.size) (hbA : ¬ lA B b) (hR : Rel X M) (hP : va_P B.1 vwCl (wX B X ++ wM B M) H) (hS : va_S (lA B) s.heap H locs) (hl : lv_has ls 4 [(3, .int (nI i)), (2, .ref (B.2.2.2.2.1 63)), (1, .ref (B.2.2.2.1 63)), (0, .ref b)]) (hcs : cells ≤ room_1.cells ∧ slots ≤ room_1.slots) {v1 : Int32} (in1 : vp_in (nI i + 1) L) (hv1 : xs (nI i + 1).toNatClampNeg = v1) (kk : ∀ (X' M' : GS) (H1 : Heap) (locs1 : List Loc), Rel X' M' → va_P B.1 vwCl (wX B X' ++ wM B M') H1 → va_S (lA B) s.heap H1 locs1 → W p l e room_1 s m #[Value.ref b] below meth c H1 locs1 cells slots Q (F0 m 1330 ls [])) : W p l e room_1 s m #[Value.ref b] below meth c H locs cells slots Q (F0 m 1307 ls []) := by
  obtain ⟨hx, hb, -, -, hown, hts, -⟩ := id Xg
  obtain ⟨r, f1, f2⟩ := s_status hR (v1)
  refine lv_aload_n hx hb dL_law_1307 rfl (lv_at hl 2 rfl) ?_
  refine lv_aload_n hx hb dL_law_1308 rfl (lv_at hl 3 rfl) ?_
  refine lv_iload_n hx hb dL_law_1309 rfl (lv_at hl 0 rfl) ?_
  refine lv_iconst (v := (1 : Int32)) hx hb dL_law_1310 (by decide) ?_
  refine lv_iadd hx hb dL_law_1311 ?_
  refine l_sld Xg hX hbl hbA hS in1 hv1 dL_law_1312 ?_
  refine g_vi (rest := []) (G := bx B (wM B M)) Xg (hE0.1 M) (toX hP) hS (tcX8_status l _ X _ f1) (g_cwV Xg gL_law_X8_status rfl hdL_X8_status ⟨(Nat.le_of_ble_eq_true rfl), (Nat.le_of_ble_eq_true rfl)⟩) (rcX_main (hE0.1 M) (toX hP)) rfl hl.1 rfl (Nat.le_of_ble_eq_true rfl) dL_law_1313 hcs (fun H locs hP hS => ?_)
  have hP : va_P B.1 vwCl (wX B X ++ wM B M) H := ofX hP
  refine lv_aload_n hx hb dL_law_1316 rfl (lv_at hl 1 rfl) ?_
  refine lv_aload_n hx hb dL_law_1317 rfl (lv_at hl 3 rfl) ?_
  refine lv_iload_n hx hb dL_law_1318 rfl (lv_at hl 0 rfl) ?_
  refine lv_iconst (v := (1 : Int32)) hx hb dL_law_1319 (by decide) ?_
  refine lv_iadd hx hb dL_law_1320 ?_
  refine l_sld Xg hX hbl hbA hS in1 hv1 dL_law_1321 ?_
  refine g_vi (rest := [.int r]) (G := bm B (wX B X)) Xg (hE0.2 X) (toM hP) hS (tcX9_status l _ M _ f2) (g_cwV Xg gL_law_X9_status rfl hdL_X9_status ⟨(Nat.le_of_ble_eq_true rfl), (Nat.le_of_ble_eq_true rfl)⟩) (rcM_model (hE0.2 X) (toM hP)) rfl hl.1 rfl (Nat.le_of_ble_eq_true rfl) dL_law_1322 hcs (fun H locs hP hS => ?_)
  have hP : va_P B.1 vwCl (wX B X ++ wM B M) H := ofM hP
  exact lv_icmp_eq (tgt := 1330) hx hb dL_law_1325 (by decide) (fun _ => kk _ _ _ _ hR hP hS) (fun c1 => absurd rfl c1)
set_option maxHeartbeats 4000000 in
set_option maxRecDepth 20000 in
theorem law_loop (Xg : GX p s m meth c #[Value.ref b] cL_law 4 ret wsL_law RL) (hE0 : LEv B s) (hX : va_X b L xs s s.heap) (hbl : b < s.heap.size) (hbA : ¬ lA B b) (hL : L ≤ 3584) (hcs : cells ≤ room_1.cells ∧ slots ≤ room_1.slots) (ke : ∀ (H1 : Heap) (locs1 : List Loc) (ls1 : Array Slot), va_S (lA B) s.heap H1 locs1 → W p l e room_1 s m #[Value.ref b] below meth c H1 locs1 cells slots Q (F0 m 1336 ls1 [])) : ∀ (d i : Nat) (X M : GS) (H : Heap) (locs : List Loc) (ls : Array Slot), L - i < d → i ≤ L → Rel X M → va_P B.1 vwCl (wX B X ++ wM B M) H → va_S (lA B) s.heap H locs → lv_has ls 4 [(3, .int (nI i)), (2, .ref (B.2.2.2.2.1 63)), (1, .ref (B.2.2.2.1 63)), (0, .ref b)] → W p l e room_1 s m #[Value.ref b] below meth c H locs cells slots Q (F0 m 18 ls []) := by
  intro d
  induction d with
  | zero => exact fun i X M H locs ls hd => absurd hd (Nat.not_lt_zero _)
  | succ d ih =>
  intro i X M H locs ls hd hi hR hP hS hl
  obtain ⟨hx, hb, -, -, hown, hts, -⟩ := id Xg
  refine lv_iload_n hx hb dL_law_18 rfl (lv_at hl 0 rfl) ?_
  refine lv_aload_n hx hb dL_law_19 rfl (lv_at hl 3 rfl) ?_
  refine va_slen hx hb hX hbl hbA hS dL_law_20 ?_
  refine lv_bipush (v := (7 : Int32)) hx hb dL_law_21 (by decide) ?_
  refine lv_isub hx hb dL_law_23 ?_
  have e7 : (Int32.ofNat L - 7).toInt = (L : Int) - 7 := pk_sub_toInt (a := L) (b := 7) (by omega) (by decide)
  refine lv_icmp_gt (tgt := 1336) hx hb dL_law_24 (by decide) (fun _ => ke _ _ _ hS) (fun c1 => ?_)
  have h7 : i + 7 ≤ L := by
    rw [tlt, e7, tni i (by omega)] at c1
    omega
  have inj : ∀ j, j < 7 → vp_in (nI i + nI j) L := fun j hj => by
    rw [i_add]
    exact nI_in (by omega) (by omega)
  have in0 : vp_in (nI i) L := nI_in (by omega) (by omega)
  have kk : ∀ (X' M' : GS) (H1 : Heap) (locs1 : List Loc), Rel X' M' → va_P B.1 vwCl (wX B X' ++ wM B M') H1 → va_S (lA B) s.heap H1 locs1 → W p l e room_1 s m #[Value.ref b] below meth c H1 locs1 cells slots Q (F0 m 1330 ls []) := by
    intro X' M' H1 locs1 hR' hP' hS'
    refine lv_iinc (v := nI (i + 7)) (lv' := [(3, .int (nI (i + 7))), (2, .ref (B.2.2.2.2.1 63)), (1, .ref (B.2.2.2.1 63)), (0, .ref b)]) hx hb dL_law_1330 hl (k := 0) rfl (show nI i + nI 7 = nI (i + 7) from i_add i 7) (by decide) rfl (fun ls hl => ?_)
    refine lv_goto (tgt := 18) hx hb dL_law_1333 (by decide) ?_
    exact ih (i + 7) X' M' H1 locs1 ls (by omega) h7 hR' hP' hS' hl
  refine lv_aload_n hx hb dL_law_27 rfl (lv_at hl 3 rfl) ?_
  refine lv_iload_n hx hb dL_law_28 rfl (lv_at hl 0 rfl) ?_
  refine l_sld Xg hX hbl hbA hS in0 rfl dL_law_29 ?_
  refine lv_bipush (v := (63 : Int32)) hx hb dL_law_30 (by decide) ?_
  refine lv_iand hx hb dL_law_32 ?_
  obtain ⟨k, hk, ek⟩ := pk_andE (xs (nI i).toNatClampNeg) (m := 63) 6 (by decide +kernel)
  rw [ek]
  by_cases h37 : 37 ≤ k
  · refine lv_tableOut (tgt := 1330) hx hb dL_law_33 (Or.inr ?_) (by decide) (kk X M H locs hR hP hS)
    rw [tni k (by omega)]
    omega
  · rcases (show k = 0 ∨ k = 1 ∨ k = 2 ∨ k = 3 ∨ k = 4 ∨ k = 5 ∨ k = 6 ∨ k = 7 ∨ k = 8 ∨ k = 9 ∨ k = 10 ∨ k = 11 ∨ k = 12 ∨ k = 13 ∨ k = 14 ∨ k = 15 ∨ k = 16 ∨ k = 17 ∨ k = 18 ∨ k = 19 ∨ k = 20 ∨ k = 21 ∨ k = 22 ∨ k = 23 ∨ k = 24 ∨ k = 25 ∨ k = 26 ∨ k = 27 ∨ k = 28 ∨ k = 29 ∨ k = 30 ∨ k = 31 ∨ k = 32 ∨ k = 33 ∨ k = 34 ∨ k = 35 ∨ k = 36 by omega) with rfl | rfl | rfl | rfl | rfl | rfl | rfl | rfl | rfl | rfl | rfl | rfl | rfl | rfl | rfl | rfl | rfl | rfl | rfl | rfl | rfl | rfl | rfl | rfl | rfl | rfl | rfl | rfl | rfl | rfl | rfl | rfl | rfl | rfl | rfl | rfl | rfl
    · exact g_tin (k := (0 : Int32)) (off := 163) (tgt := 196) hx hb dL_law_33 rfl (by decide) (law_c0 Xg hE0 hX hbl hbA hR hP hS hl hcs (inj 1 (by decide)) rfl (inj 2 (by decide)) rfl (inj 3 (by decide)) rfl kk)
    · exact g_tin (k := (1 : Int32)) (off := 206) (tgt := 239) hx hb dL_law_33 rfl (by decide) (law_c1 Xg hE0 hX hbl hbA hR hP hS hl hcs (inj 1 (by decide)) rfl (inj 2 (by decide)) rfl (inj 3 (by decide)) rfl (inj 4 (by decide)) rfl kk)
    · exact g_tin (k := (2 : Int32)) (off := 279) (tgt := 312) hx hb dL_law_33 rfl (by decide) (law_c2 Xg hE0 hX hbl hbA hR hP hS hl hcs (inj 1 (by decide)) rfl (inj 2 (by decide)) rfl (inj 3 (by decide)) rfl (inj 4 (by decide)) rfl (inj 5 (by decide)) rfl kk)
    · exact g_tin (k := (3 : Int32)) (off := 342) (tgt := 375) hx hb dL_law_33 rfl (by decide) (law_c3 Xg hE0 hX hbl hbA hR hP hS hl hcs (inj 1 (by decide)) rfl (inj 2 (by decide)) rfl kk)
    · exact g_tin (k := (4 : Int32)) (off := 376) (tgt := 409) hx hb dL_law_33 rfl (by decide) (law_c4 Xg hE0 hX hbl hbA hR hP hS hl hcs (inj 1 (by decide)) rfl (inj 2 (by decide)) rfl kk)
    · exact g_tin (k := (5 : Int32)) (off := 409) (tgt := 442) hx hb dL_law_33 rfl (by decide) (law_c5 Xg hE0 hX hbl hbA hR hP hS hl hcs (inj 1 (by decide)) rfl kk)
    · exact g_tin (k := (6 : Int32)) (off := 432) (tgt := 465) hx hb dL_law_33 rfl (by decide) (law_c6 Xg hE0 hX hbl hbA hR hP hS hl hcs (inj 1 (by decide)) rfl (inj 2 (by decide)) rfl kk)
    · exact g_tin (k := (7 : Int32)) (off := 465) (tgt := 498) hx hb dL_law_33 rfl (by decide) (law_c7 Xg hE0 hX hbl hbA hR hP hS hl hcs (inj 1 (by decide)) rfl (inj 2 (by decide)) rfl (inj 3 (by decide)) rfl (inj 4 (by decide)) rfl (inj 5 (by decide)) rfl (inj 6 (by decide)) rfl kk)
    · exact g_tin (k := (8 : Int32)) (off := 540) (tgt := 573) hx hb dL_law_33 rfl (by decide) (law_c8 Xg hE0 hX hbl hbA hR hP hS hl hcs (inj 1 (by decide)) rfl (inj 2 (by decide)) rfl kk)
    · exact g_tin (k := (9 : Int32)) (off := 573) (tgt := 606) hx hb dL_law_33 rfl (by decide) (law_c9 Xg hE0 hX hbl hbA hR hP hS hl hcs (inj 1 (by decide)) rfl (inj 2 (by decide)) rfl (inj 3 (by decide)) rfl kk)
    · exact g_tin (k := (10 : Int32)) (off := 616) (tgt := 649) hx hb dL_law_33 rfl (by decide) (law_c10 Xg hE0 hX hbl hbA hR hP hS hl hcs (inj 1 (by decide)) rfl (inj 2 (by decide)) rfl kk)
    · exact g_tin (k := (11 : Int32)) (off := 649) (tgt := 682) hx hb dL_law_33 rfl (by decide) (law_c11 Xg hE0 hX hbl hbA hR hP hS hl hcs (inj 1 (by decide)) rfl kk)
    · exact g_tin (k := (12 : Int32)) (off := 672) (tgt := 705) hx hb dL_law_33 rfl (by decide) (law_c12 Xg hE0 hX hbl hbA hR hP hS hl hcs kk)
    · exact g_tin (k := (13 : Int32)) (off := 685) (tgt := 718) hx hb dL_law_33 rfl (by decide) (law_c13 Xg hE0 hX hbl hbA hR hP hS hl hcs (inj 1 (by decide)) rfl kk)
    · exact g_tin (k := (14 : Int32)) (off := 708) (tgt := 741) hx hb dL_law_33 rfl (by decide) (law_c14 Xg hE0 hX hbl hbA hR hP hS hl hcs (inj 1 (by decide)) rfl kk)
    · exact g_tin (k := (15 : Int32)) (off := 731) (tgt := 764) hx hb dL_law_33 rfl (by decide) (law_c15 Xg hE0 hX hbl hbA hR hP hS hl hcs (inj 1 (by decide)) rfl (inj 2 (by decide)) rfl kk)
    · exact g_tin (k := (16 : Int32)) (off := 764) (tgt := 797) hx hb dL_law_33 rfl (by decide) (law_c16 Xg hE0 hX hbl hbA hR hP hS hl hcs (inj 1 (by decide)) rfl kk)
    · exact g_tin (k := (17 : Int32)) (off := 787) (tgt := 820) hx hb dL_law_33 rfl (by decide) (law_c17 Xg hE0 hX hbl hbA hR hP hS hl hcs (inj 1 (by decide)) rfl (inj 2 (by decide)) rfl kk)
    · exact g_tin (k := (18 : Int32)) (off := 820) (tgt := 853) hx hb dL_law_33 rfl (by decide) (law_c18 Xg hE0 hX hbl hbA hR hP hS hl hcs (inj 1 (by decide)) rfl kk)
    · exact g_tin (k := (19 : Int32)) (off := 843) (tgt := 876) hx hb dL_law_33 rfl (by decide) (law_c19 Xg hE0 hX hbl hbA hR hP hS hl hcs (inj 1 (by decide)) rfl kk)
    · exact g_tin (k := (20 : Int32)) (off := 866) (tgt := 899) hx hb dL_law_33 rfl (by decide) (law_c20 Xg hE0 hX hbl hbA hR hP hS hl hcs (inj 1 (by decide)) rfl (inj 2 (by decide)) rfl (inj 3 (by decide)) rfl kk)
    · exact g_tin (k := (21 : Int32)) (off := 909) (tgt := 942) hx hb dL_law_33 rfl (by decide) (law_c21 Xg hE0 hX hbl hbA hR hP hS hl hcs (inj 1 (by decide)) rfl (inj 2 (by decide)) rfl (inj 3 (by decide)) rfl kk)
    · exact g_tin (k := (22 : Int32)) (off := 952) (tgt := 985) hx hb dL_law_33 rfl (by decide) (law_c22 Xg hE0 hX hbl hbA hR hP hS hl hcs (inj 1 (by decide)) rfl kk)
    · exact g_tin (k := (23 : Int32)) (off := 975) (tgt := 1008) hx hb dL_law_33 rfl (by decide) (law_c23 Xg hE0 hX hbl hbA hR hP hS hl hcs (inj 1 (by decide)) rfl kk)
    · exact g_tin (k := (24 : Int32)) (off := 998) (tgt := 1031) hx hb dL_law_33 rfl (by decide) (law_c24 Xg hE0 hX hbl hbA hR hP hS hl hcs kk)
    · exact g_tin (k := (25 : Int32)) (off := 1011) (tgt := 1044) hx hb dL_law_33 rfl (by decide) (law_c25 Xg hE0 hX hbl hbA hR hP hS hl hcs (inj 1 (by decide)) rfl (inj 2 (by decide)) rfl kk)
    · exact g_tin (k := (26 : Int32)) (off := 1044) (tgt := 1077) hx hb dL_law_33 rfl (by decide) (law_c26 Xg hE0 hX hbl hbA hR hP hS hl hcs (inj 1 (by decide)) rfl (inj 2 (by decide)) rfl kk)
    · exact g_tin (k := (27 : Int32)) (off := 1077) (tgt := 1110) hx hb dL_law_33 rfl (by decide) (law_c27 Xg hE0 hX hbl hbA hR hP hS hl hcs (inj 1 (by decide)) rfl (inj 2 (by decide)) rfl kk)
    · exact g_tin (k := (28 : Int32)) (off := 1110) (tgt := 1143) hx hb dL_law_33 rfl (by decide) (law_c28 Xg hE0 hX hbl hbA hR hP hS hl hcs kk)
    · exact g_tin (k := (29 : Int32)) (off := 1123) (tgt := 1156) hx hb dL_law_33 rfl (by decide) (law_c29 Xg hE0 hX hbl hbA hR hP hS hl hcs kk)
    · exact g_tin (k := (30 : Int32)) (off := 1136) (tgt := 1169) hx hb dL_law_33 rfl (by decide) (law_c30 Xg hE0 hX hbl hbA hR hP hS hl hcs (inj 1 (by decide)) rfl kk)
    · exact g_tin (k := (31 : Int32)) (off := 1159) (tgt := 1192) hx hb dL_law_33 rfl (by decide) (law_c31 Xg hE0 hX hbl hbA hR hP hS hl hcs (inj 1 (by decide)) rfl kk)
    · exact g_tin (k := (32 : Int32)) (off := 1182) (tgt := 1215) hx hb dL_law_33 rfl (by decide) (law_c32 Xg hE0 hX hbl hbA hR hP hS hl hcs (inj 1 (by decide)) rfl (inj 2 (by decide)) rfl (inj 3 (by decide)) rfl kk)
    · exact g_tin (k := (33 : Int32)) (off := 1225) (tgt := 1258) hx hb dL_law_33 rfl (by decide) (law_c33 Xg hE0 hX hbl hbA hR hP hS hl hcs (inj 1 (by decide)) rfl kk)
    · exact g_tin (k := (34 : Int32)) (off := 1248) (tgt := 1281) hx hb dL_law_33 rfl (by decide) (law_c34 Xg hE0 hX hbl hbA hR hP hS hl hcs kk)
    · exact g_tin (k := (35 : Int32)) (off := 1261) (tgt := 1294) hx hb dL_law_33 rfl (by decide) (law_c35 Xg hE0 hX hbl hbA hR hP hS hl hcs kk)
    · exact g_tin (k := (36 : Int32)) (off := 1274) (tgt := 1307) hx hb dL_law_33 rfl (by decide) (law_c36 Xg hE0 hX hbl hbA hR hP hS hl hcs (inj 1 (by decide)) rfl kk)
end LAW
