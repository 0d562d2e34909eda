/-! The words of the state: GS a value of one side (ints, longs, int rows, long rows, by number), GP what stays the same through a run (addresses, classes of rows, the other cells, the tables) -/
abbrev GS : Type := (Nat → Int32) × (Nat → Int64) × (Nat → Nat → Int32) × (Nat → Nat → Int64)
def gU1 (S : GS) (k : Nat) (v : Int32) : GS := (upd S.1 k v, S.2)
def gU2 (S : GS) (k : Nat) (v : Int64) : GS := (S.1, vp_updL S.2.1 k v, S.2.2)
def gU3 (S : GS) (k i : Nat) (v : Int32) : GS := (S.1, S.2.1, va_up S.2.2.1 k (upd (S.2.2.1 k) i v), S.2.2.2)
def gU4 (S : GS) (k i : Nat) (v : Int64) : GS := (S.1, S.2.1, S.2.2.1, va_up S.2.2.2 k (vp_updL (S.2.2.2 k) i v))
def gA3 (S : GS) (k : Nat) (f : Nat → Int32) : GS := (S.1, S.2.1, va_up S.2.2.1 k f, S.2.2.2)
def gA4 (S : GS) (k : Nat) (f : Nat → Int64) : GS := (S.1, S.2.1, S.2.2.1, va_up S.2.2.2 k f)
abbrev GP : Type := va_G × ClassId × ClassId × (Nat → Nat) × va_W × Nat × (Nat → Nat) × (Nat → Nat) × (Nat → Nat)
abbrev gD (G : GP) : va_G := G.1
abbrev gI (G : GP) : ClassId := G.2.1
abbrev gJ (G : GP) : ClassId := G.2.2.1
abbrev ga (G : GP) : Nat → Nat := G.2.2.2.1
abbrev gF (G : GP) : va_W := G.2.2.2.2.1
abbrev gb (G : GP) : Nat := G.2.2.2.2.2.1
abbrev gt (G : GP) : Nat → Nat := G.2.2.2.2.2.2.1
abbrev gK (G : GP) : Nat → Nat := G.2.2.2.2.2.2.2.1
abbrev gV (G : GP) : Nat → Nat := G.2.2.2.2.2.2.2.2
abbrev gT (G : GP) : List (ClassId × FieldType) := [(gI G, .int), (gJ G, .long)]
def gA (G : GP) : Nat → Prop := fun q => gb G ≤ q
abbrev gTab : List (List Int32) := [[0, 0, 0, 0, 1, 1, 0, 0, -9999, 0, 1], [6, 9, 9999, 9999, 99, 99, 3, 1, 9999, 9, 99], [-1, 0, 0, 1, 0, 2, 4], [1, 2, 2, 3, 2, 3, 3], [0, 1, 2, 3, 4, 5, 11, 6, 11, 7, 8, 9, 10, 11, 2, 3], [0, 6, 8, 10, 11, 12, 13, 16], [10, 11, 12, 20, 0, 0, 0, 30, 0, 0, 40, 0, 51, 0, 50, 0, 0, 60, 70, 71, 0]]
def gTb (k : Nat) (j : Nat) : Int32 := (gTab.getD k []).getD j 0
abbrev gTn : List (String × String × Nat) := [("BackToTheFirstStone$Loop", "LEAST", 11), ("BackToTheFirstStone$Loop", "GREATEST", 11), ("BackToTheFirstStone$Kind", "ABOVE", 7), ("BackToTheFirstStone$Kind", "WEIGHT", 7), ("BackToTheFirstStone$Reader", "NUMBERS", 16), ("BackToTheFirstStone$Reader", "NUMBERS_FROM", 8), ("BackToTheFirstStone$Acts", "BODIES", 21)]
/-- a table of the class: where its static stands, what it holds -/
def gZ1 (G : GP) (k : Nat) (U : State) (H : Heap) : Prop := ∀ q : String × String × Nat, gTn[k]? = some q → va_Z q.1 q.2.1 "[I" (.ref (gt G k)) (gA G) U H ∧ va_T .int (gt G k) q.2.2 (fun j => .int (gTb k j)) (gA G) U H
/-- the seven words of Reader.wordOf: place in the pool, text -/
abbrev gSn : List (Nat × String × List Int32) := [(117, "setup", [115, 101, 116, 117, 112]), (119, "holder", [104, 111, 108, 100, 101, 114]), (121, "first", [102, 105, 114, 115, 116]), (123, "start", [115, 116, 97, 114, 116]), (125, "hair", [104, 97, 105, 114]), (127, "fine", [102, 105, 110, 101]), (129, "again", [97, 103, 97, 105, 110])]
abbrev gSl : List Nat := gSn.map (fun q => q.2.2.length)
abbrev gSb : List (List Int32) := gSn.map (fun q => q.2.2)
def gZs (G : GP) (U : State) : Prop := (∀ (k : Nat) (q : Nat × String × List Int32), gSn[k]? = some q → vk_R "BackToTheFirstStone$Reader" q.1 q.2.1 (gK G k) U) ∧ vk_S 7 gSl gSb (gK G) (gV G) (gA G) U U.heap ∧ va_Z "java/lang/String" "COMPACT_STRINGS" "Z" (.int 1) (gA G) U U.heap ∧ va_Zq "jdk/internal/util/Preconditions" "SIOOBE_FORMATTER" "Ljava/util/function/BiFunction;" (gA G) U U.heap
def gZ (G : GP) (U : State) : Prop := (∀ k : Nat, gZ1 G k U U.heap) ∧ gZs G U
theorem va_OFm {o n d : String} {v : Value} {t : Nat} {A : Nat → Prop} {U : State} {H H1 : Heap} (h : va_OF o n d v t A U H) (hq : ∀ a : Nat, a < H.size → ¬ A a → H1[a]? = H[a]?) : va_OF o n d v t A U H1 := h.kept hq
theorem gZ.to {G : GP} {s U : State} (h : gZ G s) (hW : s.WarmedH U.vm) (hq : ∀ a : Nat, a < s.heap.size → ¬ gA G a → U.heap[a]? = s.heap[a]?) : gZ G U := by
  refine ⟨fun k q hk => ⟨((h.1 k q hk).1.moved hW.alike).kept hq, ((h.1 k q hk).2.moved hW.alike).kept hq⟩, fun k q hk => (h.2.1 k q hk).warm hW, (h.2.2.1.moved hW.alike).kept hq, (h.2.2.2.1.moved hW.alike).kept hq, (h.2.2.2.2.moved hW.alike).kept hq⟩
theorem gZ.same {G : GP} {s U : State} (h : gZ G s) (hv : U.vm = s.vm) (hh : U.heap = s.heap) : gZ G U := by
  have al : s.vm.Alike U.vm := by rw [hv]; exact Vm.Alike.refl _
  have hq : ∀ a : Nat, a < s.heap.size → ¬ gA G a → U.heap[a]? = s.heap[a]? := fun a _ _ => by rw [hh]
  refine ⟨fun k q hk => ⟨((h.1 k q hk).1.moved al).kept hq, ((h.1 k q hk).2.moved al).kept hq⟩, fun k q hk => (h.2.1 k q hk).same hv, (h.2.2.1.moved al).kept hq, (h.2.2.2.1.moved al).kept hq, (h.2.2.2.2.moved al).kept hq⟩
/-- what holds of a state between two calls: the world of this side (and the other cells), the tables, what stands below -/
def gE (WW : GP → GS → va_W) (G : GP) (s : State) : Prop := va_K (gD G) vwCl (gT G) s ∧ (∀ S : GS, va_D (gA G) (WW G S ++ gF G)) ∧ gb G ≤ s.heap.size ∧ gZ G s
def GI (WW : GP → GS → va_W) (G : GP) (S : GS) (U : State) : Prop := va_P (gD G) vwCl (WW G S ++ gF G) U.heap ∧ gE WW G U
theorem gE.to {WW : GP → GS → va_W} {G : GP} {s U : State} (h : gE WW G s) (hW : s.WarmedH U.vm) {locs : List Loc} (hS : va_S (gA G) s.heap U.heap locs) : gE WW G U :=
  ⟨va_K.moved hW.alike h.1, h.2.1, Nat.le_trans h.2.2.1 hS.1, h.2.2.2.to hW hS.2.1⟩
theorem GI.blind {WW : GP → GS → va_W} {G : GP} {S : GS} {av : List Value} : FrameBlind (va_Pc av (GI WW G S)) := fun a U g mk q =>
  ⟨q.1, q.2.1, va_K.moved (u := U) (U := U.calling g mk a) (Vm.Alike.refl U.vm) q.2.2.1, q.2.2.2.1, q.2.2.2.2.1, q.2.2.2.2.2.same rfl rfl⟩
/-- what a method's code stands on -/
def GX (p : Program) (s : State) (m : MethodId) (meth : Method) (c : Code) (args : Array Value) (cc : ByteArray) (nL : Nat) (ret : Option FieldType) (Ts : List Cond) (own : String) : Prop :=
  p.tables.exec = Jvm.exec ∧ c.code = cc ∧ c.maxLocals = nL ∧ meth.sig.returnType = ret ∧ s.vm.findClass own = some m.cls ∧ (∀ w ∈ Ts, w.before args s = true) ∧ meth.locks = false
abbrev gR (fr lo : Nat) : Room := { frames := fr, cells := 0, slots := 0, locals := lo }
def gQi (WW : GP → GS → va_W) (G : GP) (r : Int32) (S : GS) : Array Value → State → Outcome → State → Prop := va_Qi (fun (r' : Int32) (_ : Unit) => r' = r) (fun _ t => GI WW G S t) (gA G)
def gQl (WW : GP → GS → va_W) (G : GP) (r : Int64) (S : GS) : Array Value → State → Outcome → State → Prop := va_Ql (fun (r' : Int64) (_ : Unit) => r' = r) (fun _ t => GI WW G S t) (gA G)
def gQv (WW : GP → GS → va_W) (G : GP) (S : GS) : Array Value → State → Outcome → State → Prop := va_Qv (fun (_ : Unit) => True) (fun _ t => GI WW G S t) (gA G)
def gQs (WW : GP → GS → va_W) (G : GP) (r : Nat) (S : GS) : Array Value → State → Outcome → State → Prop := va_Qr (fun (_ : Unit) => True) (fun _ a t => a = gK G r ∧ GI WW G S t) (gA G)
def CI (l : Launch) (y : MethodName) (ws : List Cond) (fr lo : Nat) (av : List Value) (WW : GP → GS → va_W) (G : GP) (S : GS) (r : Int32) (S' : GS) : Prop := Met l y ws (gR fr lo) (va_Pc av (GI WW G S)) (gQi WW G r S') 0 0 (gA G)
def CL (l : Launch) (y : MethodName) (ws : List Cond) (fr lo : Nat) (av : List Value) (WW : GP → GS → va_W) (G : GP) (S : GS) (r : Int64) (S' : GS) : Prop := Met l y ws (gR fr lo) (va_Pc av (GI WW G S)) (gQl WW G r S') 0 0 (gA G)
def CV (l : Launch) (y : MethodName) (ws : List Cond) (fr lo : Nat) (av : List Value) (WW : GP → GS → va_W) (G : GP) (S : GS) (S' : GS) : Prop := Met l y ws (gR fr lo) (va_Pc av (GI WW G S)) (gQv WW G S') 0 0 (gA G)
def CS (l : Launch) (y : MethodName) (ws : List Cond) (fr lo : Nat) (av : List Value) (WW : GP → GS → va_W) (G : GP) (S : GS) (r : Nat) (S' : GS) : Prop := Met l y ws (gR fr lo) (va_Pc av (GI WW G S)) (gQs WW G r S') 0 0 (gA G)
theorem g_met {l : Launch} {y : MethodName} {ws ws' : List Cond} {fr lo : Nat} {av : List Value} {WW : GP → GS → va_W} {G : GP} {S : GS} {Qc : Array Value → State → Outcome → State → Prop} {cc : ByteArray} {nL : Nat} {ret : Option FieldType} (own : String)
    (hy : plainName y.cls = true) (ho : y.cls = own) (hw : ws = Cond.code y cc nL ret :: ws') (hlen : (lg_sl av).length ≤ nL)
    (body : ∀ (p : Program) (e : Env) (s : State) (m : MethodId) (below : List Frame) (meth : Method) (c : Code) (ls : Array Slot), GX p s m meth c av.toArray cc nL ret ws own → gE WW G s → va_P (gD G) vwCl (WW G S ++ gF G) s.heap → va_S (gA G) s.heap s.heap [] → lv_has ls nL (lv_args 0 av) →
      W p l e (gR fr lo) s m av.toArray below meth c s.heap [] 0 0 (MQ below Qc av.toArray s 0 0 (gA G)) (F0 m 0 ls [])) : Met l y ws (gR fr lo) (va_Pc av (GI WW G S)) Qc 0 0 (gA G) := by
  refine Met.ofW (cc := cc) (maxL := nL) (ret := ret) hy hw ?_
  intro p e s m args below meth c s₁ B hml hv
  obtain ⟨rfl, hP, hE⟩ := hv
  have hts := atoms_spec (ws := ws) B.pre
  have hown : s.vm.findClass own = some m.cls := by rw [← ho]; exact findClass_of_methodNamed B.named
  have hl := lv_entry av (n := nL) hlen
  rw [lg_entry_eq]
  generalize (lg_sl av ++ List.replicate (nL - (lg_sl av).length) Slot.unset).toArray = ls at hl ⊢
  exact body p e s m below meth c ls ⟨B.exec, B.bytes, hml, B.returns, hown, hts, B.notSynchronized⟩ hE hP va_S.rf hl
section GCALL
variable {p : Program} {l : Launch} {e : Env} {R : Room} {s : State} {m : MethodId} {args : Array Value} {below : List Frame} {meth : Method} {c : Code} {H : Heap} {locs : List Loc} {cells slots : Nat} {Q : State → Prop}
variable {cc : ByteArray} {nL : Nat} {ret0 : Option FieldType} {Ts : List Cond} {own : String} {pc : Nat} {ls : Array Slot} {rest st : List Value} {WW : GP → GS → va_W} {G : GP} {S S' : GS}
variable {y : MethodName} {bytes : ByteArray} {maxL n index : Nat} {ret : Option FieldType} {ws ws' : List Cond} {fr lo : Nat} {C : String} {b : Addr} {As : List Value}
theorem g_fix (X : GX p s m meth c args cc nL ret0 Ts own) : CallFix p m c cc nL s args Ts own := ⟨X.1, X.2.1, X.2.2.1, X.2.2.2.2.1, X.2.2.2.2.2.1⟩
theorem g_preV (E : gE WW G s) (hP : va_P (gD G) vwCl (WW G S ++ gF G) H) (hS : va_S (gA G) s.heap H locs) (hrc : ∃ cell : Cell, H[b]? = some cell ∧ cell.vm.isStatics = false ∧ s.vm.findClass C = some cell.cls) : PreV s H C b (va_Pc (.ref b :: As) (GI WW G S)) As :=
  ⟨GI.blind, hrc, fun U hU hW => ⟨rfl, by rw [hU]; exact hP, E.to hW (by rw [hU]; exact hS)⟩⟩
theorem g_preS (E : gE WW G s) (hP : va_P (gD G) vwCl (WW G S ++ gF G) H) (hS : va_S (gA G) s.heap H locs) : PreS s H (va_Pc As (GI WW G S)) As :=
  ⟨GI.blind, fun U hU hW => ⟨rfl, by rw [hU]; exact hP, E.to hW (by rw [hU]; exact hS)⟩⟩
theorem g_cwV (X : GX p s m meth c args cc nL ret0 Ts own) (hT : GoodIn Ts (wsV own index C y ws)) (hw : ws = Cond.code y bytes maxL ret :: ws') (hd : y.cls = C ∧ y.cls ≠ "java/lang/invoke/MethodHandle" ∧ y.cls ≠ "java/lang/invoke/VarHandle" ∧ (parseMethodDescriptor y.desc).map (fun d => d.parameters.length) = some n) (hR : fr + 1 ≤ R.frames ∧ 8 + (maxL + 11) + lo ≤ R.locals) :
    CallW R s args own C index y bytes maxL ret ws (gR fr lo) 0 0 n := cwV n X.2.2.2.2.2.1 hT hw rfl rfl hd hR
theorem g_cwS (X : GX p s m meth c args cc nL ret0 Ts own) (hT : GoodIn Ts (va_wsS own index y ws)) (hw : ws = Cond.code y bytes maxL ret :: ws') (hd : y.cls = C ∧ y.cls ≠ "java/lang/invoke/MethodHandle" ∧ y.cls ≠ "java/lang/invoke/VarHandle" ∧ (parseMethodDescriptor y.desc).map (fun d => d.parameters.length) = some n) (hR : fr + 1 ≤ R.frames ∧ 8 + (maxL + 11) + lo ≤ R.locals) :
    CallB R s args own index y bytes maxL ret ws (gR fr lo) 0 0 n ∧ (Cond.static y).before args s = true := va_cwS n X.2.2.2.2.2.1 hT hw rfl rfl hd.2 hR
theorem g_vi (X : GX p s m meth c args cc nL ret0 Ts own) (E : gE WW G s) (hP : va_P (gD G) vwCl (WW G S ++ gF G) H) (hS : va_S (gA G) s.heap H locs) {r : Int32} (hM : CI l y ws fr lo (.ref b :: As) WW G S r S') (cw : CallW R s args own C index y bytes maxL ret ws (gR fr lo) 0 0 n)
    (hrc : ∃ cell : Cell, H[b]? = some cell ∧ cell.vm.isStatics = false ∧ s.vm.findClass C = some cell.cls) (hn : As.length = n) (hls : ls.size = nL) (hst : st = As.reverse ++ .ref b :: rest) (hr8 : (rest.map fun v => v.category).sum ≤ 8) (hdg : decode cc pc = .ok (.invokevirtual index, 3)) (hcs : cells ≤ R.cells ∧ slots ≤ R.slots)
    (kk : ∀ (H1 : Heap) (locs1 : List Loc), va_P (gD G) vwCl (WW G S' ++ gF G) H1 → va_S (gA G) s.heap H1 locs1 → W p l e R s m args below meth c H1 locs1 cells slots Q (F0 m (pc + 3) ls (.int r :: rest))) : W p l e R s m args below meth c H locs cells slots Q (F0 m pc ls st) :=
  va_calli (va_runV (g_fix X) hM cw (g_preV E hP hS hrc) rfl hn hls hst (lv_room hr8) hdg hcs) hS (fun _ _ h => h) (fun _ h => h) (fun r' _ t H1 locs1 ht _ hr' hB _ _ hS1 => by
    subst hr'; subst ht; exact kk t.heap locs1 hB.1 hS1)
theorem g_vl (X : GX p s m meth c args cc nL ret0 Ts own) (E : gE WW G s) (hP : va_P (gD G) vwCl (WW G S ++ gF G) H) (hS : va_S (gA G) s.heap H locs) {r : Int64} (hM : CL l y ws fr lo (.ref b :: As) WW G S r S') (cw : CallW R s args own C index y bytes maxL ret ws (gR fr lo) 0 0 n)
    (hrc : ∃ cell : Cell, H[b]? = some cell ∧ cell.vm.isStatics = false ∧ s.vm.findClass C = some cell.cls) (hn : As.length = n) (hls : ls.size = nL) (hst : st = As.reverse ++ .ref b :: rest) (hr8 : (rest.map fun v => v.category).sum ≤ 8) (hdg : decode cc pc = .ok (.invokevirtual index, 3)) (hcs : cells ≤ R.cells ∧ slots ≤ R.slots)
    (kk : ∀ (H1 : Heap) (locs1 : List Loc), va_P (gD G) vwCl (WW G S' ++ gF G) H1 → va_S (gA G) s.heap H1 locs1 → W p l e R s m args below meth c H1 locs1 cells slots Q (F0 m (pc + 3) ls (.long r :: rest))) : W p l e R s m args below meth c H locs cells slots Q (F0 m pc ls st) :=
  va_calll (va_runV (g_fix X) hM cw (g_preV E hP hS hrc) rfl hn hls hst (lv_room hr8) hdg hcs) hS (fun _ _ h => h) (fun _ h => h) (fun r' _ t H1 locs1 ht _ hr' hB _ _ hS1 => by
    subst hr'; subst ht; exact kk t.heap locs1 hB.1 hS1)
theorem g_vv (X : GX p s m meth c args cc nL ret0 Ts own) (E : gE WW G s) (hP : va_P (gD G) vwCl (WW G S ++ gF G) H) (hS : va_S (gA G) s.heap H locs) (hM : CV l y ws fr lo (.ref b :: As) WW G S S') (cw : CallW R s args own C index y bytes maxL ret ws (gR fr lo) 0 0 n)
    (hrc : ∃ cell : Cell, H[b]? = some cell ∧ cell.vm.isStatics = false ∧ s.vm.findClass C = some cell.cls) (hn : As.length = n) (hls : ls.size = nL) (hst : st = As.reverse ++ .ref b :: rest) (hr8 : (rest.map fun v => v.category).sum ≤ 8) (hdg : decode cc pc = .ok (.invokevirtual index, 3)) (hcs : cells ≤ R.cells ∧ slots ≤ R.slots)
    (kk : ∀ (H1 : Heap) (locs1 : List Loc), va_P (gD G) vwCl (WW G S' ++ gF G) H1 → va_S (gA G) s.heap H1 locs1 → W p l e R s m args below meth c H1 locs1 cells slots Q (F0 m (pc + 3) ls rest)) : W p l e R s m args below meth c H locs cells slots Q (F0 m pc ls st) :=
  va_callv (va_runV (g_fix X) hM cw (g_preV E hP hS hrc) rfl hn hls hst (lv_room hr8) hdg hcs) hS (fun _ _ h => h) (fun _ h => h) (fun _ t H1 locs1 ht _ _ hB _ _ hS1 => by
    subst ht; exact kk t.heap locs1 hB.1 hS1)
theorem g_si (X : GX p s m meth c args cc nL ret0 Ts own) (E : gE WW G s) (hP : va_P (gD G) vwCl (WW G S ++ gF G) H) (hS : va_S (gA G) s.heap H locs) {r : Int32} (hM : CI l y ws fr lo As WW G S r S') (cw : CallB R s args own index y bytes maxL ret ws (gR fr lo) 0 0 n ∧ (Cond.static y).before args s = true)
    (hn : As.length = n) (hls : ls.size = nL) (hst : st = As.reverse ++ rest) (hr8 : (rest.map fun v => v.category).sum ≤ 8) (hdg : decode cc pc = .ok (.invokestatic index, 3)) (hcs : cells ≤ R.cells ∧ slots ≤ R.slots)
    (kk : ∀ (H1 : Heap) (locs1 : List Loc), va_P (gD G) vwCl (WW G S' ++ gF G) H1 → va_S (gA G) s.heap H1 locs1 → W p l e R s m args below meth c H1 locs1 cells slots Q (F0 m (pc + 3) ls (.int r :: rest))) : W p l e R s m args below meth c H locs cells slots Q (F0 m pc ls st) :=
  va_calli (va_runS (g_fix X) hM cw (g_preS E hP hS) rfl hn hls hst (lv_room hr8) hdg hcs) hS (fun _ _ h => h) (fun _ h => h) (fun r' _ t H1 locs1 ht _ hr' hB _ _ hS1 => by
    subst hr'; subst ht; exact kk t.heap locs1 hB.1 hS1)
theorem g_sl (X : GX p s m meth c args cc nL ret0 Ts own) (E : gE WW G s) (hP : va_P (gD G) vwCl (WW G S ++ gF G) H) (hS : va_S (gA G) s.heap H locs) {r : Int64} (hM : CL l y ws fr lo As WW G S r S') (cw : CallB R s args own index y bytes maxL ret ws (gR fr lo) 0 0 n ∧ (Cond.static y).before args s = true)
    (hn : As.length = n) (hls : ls.size = nL) (hst : st = As.reverse ++ rest) (hr8 : (rest.map fun v => v.category).sum ≤ 8) (hdg : decode cc pc = .ok (.invokestatic index, 3)) (hcs : cells ≤ R.cells ∧ slots ≤ R.slots)
    (kk : ∀ (H1 : Heap) (locs1 : List Loc), va_P (gD G) vwCl (WW G S' ++ gF G) H1 → va_S (gA G) s.heap H1 locs1 → W p l e R s m args below meth c H1 locs1 cells slots Q (F0 m (pc + 3) ls (.long r :: rest))) : W p l e R s m args below meth c H locs cells slots Q (F0 m pc ls st) :=
  va_calll (va_runS (g_fix X) hM cw (g_preS E hP hS) rfl hn hls hst (lv_room hr8) hdg hcs) hS (fun _ _ h => h) (fun _ h => h) (fun r' _ t H1 locs1 ht _ hr' hB _ _ hS1 => by
    subst hr'; subst ht; exact kk t.heap locs1 hB.1 hS1)
theorem g_ss (X : GX p s m meth c args cc nL ret0 Ts own) (E : gE WW G s) (hP : va_P (gD G) vwCl (WW G S ++ gF G) H) (hS : va_S (gA G) s.heap H locs) {r : Nat} (hM : CS l y ws fr lo As WW G S r S') (cw : CallB R s args own index y bytes maxL ret ws (gR fr lo) 0 0 n ∧ (Cond.static y).before args s = true)
    (hn : As.length = n) (hls : ls.size = nL) (hst : st = As.reverse ++ rest) (hr8 : (rest.map fun v => v.category).sum ≤ 8) (hdg : decode cc pc = .ok (.invokestatic index, 3)) (hcs : cells ≤ R.cells ∧ slots ≤ R.slots)
    (kk : ∀ (H1 : Heap) (locs1 : List Loc), va_P (gD G) vwCl (WW G S' ++ gF G) H1 → va_S (gA G) s.heap H1 locs1 → W p l e R s m args below meth c H1 locs1 cells slots Q (F0 m (pc + 3) ls (.ref (gK G r) :: rest))) : W p l e R s m args below meth c H locs cells slots Q (F0 m pc ls st) :=
  va_callr (va_runS (g_fix X) hM cw (g_preS E hP hS) rfl hn hls hst (lv_room hr8) hdg hcs) hS (fun _ _ h => h) (fun _ h => h) (fun _ ra t H1 locs1 ht _ _ hB _ _ hS1 => by
    obtain ⟨hra, hB⟩ := hB
    subst hra; subst ht; exact kk t.heap locs1 hB.1 hS1)
/-- the ends -/
theorem g_ri (X : GX p s m meth c args cc nL (some .int) Ts own) (E : gE WW G s) (hP : va_P (gD G) vwCl (WW G S ++ gF G) H) (hS : va_S (gA G) s.heap H locs) {v : Int32} (hdg : decode cc pc = .ok (.ireturn, 1)) : W p l e R s m args below meth c H locs 0 0 (MQ below (gQi WW G v S) args s 0 0 (gA G)) (F0 m pc ls [.int v]) := by
  have hlocks : meth.locks = false := X.2.2.2.2.2.2
  exact W.iret X.1 X.2.1 X.2.2.2.1 (fun t ht hW => ⟨⟨v, (), rfl, rfl, by rw [ht]; exact hP, E.to hW (by rw [ht]; exact hS)⟩, hS.F ht⟩) hS.2.2 hdg hlocks
theorem g_rz {rt : FieldType} (X : GX p s m meth c args cc nL (some rt) Ts own) (E : gE WW G s) (hP : va_P (gD G) vwCl (WW G S ++ gF G) H) (hS : va_S (gA G) s.heap H locs) {v : Int32} (hn : narrow rt (.int v) = .int v) (hdg : decode cc pc = .ok (.ireturn, 1)) : W p l e R s m args below meth c H locs 0 0 (MQ below (gQi WW G v S) args s 0 0 (gA G)) (F0 m pc ls [.int v]) := by
  have hlocks : meth.locks = false := X.2.2.2.2.2.2
  exact W.zret X.1 X.2.1 X.2.2.2.1 hn (fun t ht hW => ⟨⟨v, (), rfl, rfl, by rw [ht]; exact hP, E.to hW (by rw [ht]; exact hS)⟩, hS.F ht⟩) hS.2.2 hdg hlocks
theorem g_rl (X : GX p s m meth c args cc nL (some .long) Ts own) (E : gE WW G s) (hP : va_P (gD G) vwCl (WW G S ++ gF G) H) (hS : va_S (gA G) s.heap H locs) {v : Int64} (hdg : decode cc pc = .ok (.lreturn, 1)) : W p l e R s m args below meth c H locs 0 0 (MQ below (gQl WW G v S) args s 0 0 (gA G)) (F0 m pc ls [.long v]) := by
  have hlocks : meth.locks = false := X.2.2.2.2.2.2
  exact W.lret X.1 X.2.1 X.2.2.2.1 (fun t ht hW => ⟨⟨v, (), rfl, rfl, by rw [ht]; exact hP, E.to hW (by rw [ht]; exact hS)⟩, hS.F ht⟩) hS.2.2 hdg hlocks
theorem g_rv (X : GX p s m meth c args cc nL none Ts own) (E : gE WW G s) (hP : va_P (gD G) vwCl (WW G S ++ gF G) H) (hS : va_S (gA G) s.heap H locs) (hdg : decode cc pc = .ok (.return_, 1)) : W p l e R s m args below meth c H locs 0 0 (MQ below (gQv WW G S) args s 0 0 (gA G)) (F0 m pc ls []) := by
  have hlocks : meth.locks = false := X.2.2.2.2.2.2
  exact W.vret X.1 X.2.1 X.2.2.2.1 (fun t ht hW => ⟨⟨(), rfl, trivial, by rw [ht]; exact hP, E.to hW (by rw [ht]; exact hS)⟩, hS.F ht⟩) hS.2.2 hdg hlocks
theorem g_rs (X : GX p s m meth c args cc nL (some (.object "java/lang/String")) Ts own) (E : gE WW G s) (hP : va_P (gD G) vwCl (WW G S ++ gF G) H) (hS : va_S (gA G) s.heap H locs) {r : Nat} (hdg : decode cc pc = .ok (.areturn, 1)) : W p l e R s m args below meth c H locs 0 0 (MQ below (gQs WW G r S) args s 0 0 (gA G)) (F0 m pc ls [.ref (gK G r)]) := by
  have hlocks : meth.locks = false := X.2.2.2.2.2.2
  exact W.aret X.1 X.2.1 X.2.2.2.1 (Or.inl ⟨_, rfl⟩) (Or.inr ⟨_, rfl⟩) (fun t ht hW => ⟨⟨(), gK G r, rfl, trivial, rfl, by rw [ht]; exact hP, E.to hW (by rw [ht]; exact hS)⟩, hS.F ht⟩) hS.2.2 hdg hlocks
/-- tables of the class: the static, then its place -/
theorem g_tget (X : GX p s m meth c args cc nL ret0 Ts own) (E : gE WW G s) (hS : va_S (gA G) s.heap H locs) (k : Nat) {Cn nm : String} {N : Nat} (hk : gTn[k]? = some (Cn, nm, N)) (hlink : Cond.fieldLink own index Cn nm "[I" ∈ Ts) (hdg : decode cc pc = .ok (.getstatic index, 3))
    (kk : W p l e R s m args below meth c H locs cells slots Q (F0 m (pc + 3) ls (.ref (gt G k) :: rest))) : W p l e R s m args below meth c H locs cells slots Q (F0 m pc ls rest) :=
  va_gets X.1 X.2.1 (E.2.2.2.1 k _ hk).1 hS X.2.2.2.2.1 (X.2.2.2.2.2.1 _ hlink) (fun _ h => h) hdg kk
theorem g_tld (X : GX p s m meth c args cc nL ret0 Ts own) (E : gE WW G s) (hS : va_S (gA G) s.heap H locs) (k : Nat) {Cn nm : String} {N : Nat} (hk : gTn[k]? = some (Cn, nm, N)) {i : Int32} (hin : ¬ (i < 0 ∨ N ≤ i.toNatClampNeg)) (hdg : decode cc pc = .ok (.iaload, 1))
    (kk : W p l e R s m args below meth c H locs cells slots Q (F0 m (pc + 1) ls (.int (gTb k i.toNatClampNeg) :: rest))) : W p l e R s m args below meth c H locs cells slots Q (F0 m pc ls (.int i :: .ref (gt G k) :: rest)) :=
  va_ti X.1 X.2.1 (E.2.2.2.1 k _ hk).2 hS hin rfl hdg kk
theorem g_tln (X : GX p s m meth c args cc nL ret0 Ts own) (E : gE WW G s) (hS : va_S (gA G) s.heap H locs) (k : Nat) {Cn nm : String} {N : Nat} (hk : gTn[k]? = some (Cn, nm, N)) {v : Int32} (hv : Int32.ofNat N = v) (hdg : decode cc pc = .ok (.arraylength, 1))
    (kk : W p l e R s m args below meth c H locs cells slots Q (F0 m (pc + 1) ls (.int v :: rest))) : W p l e R s m args below meth c H locs cells slots Q (F0 m pc ls (.ref (gt G k) :: rest)) :=
  va_tlen X.1 X.2.1 (E.2.2.2.1 k _ hk).2 hS hv hdg kk
/-- switches, by the number that stands there -/
theorem g_tin (hx : p.tables.exec = Jvm.exec) (hb : c.code = cc) {dflt lo hi : Int} {offs : Array Int} {len : Nat} {x k : Int32} {off : Int} {tgt : Nat} (hdg : decode cc pc = .ok (.tableswitch dflt lo hi offs, len)) (h : x = k) (h1 : ¬ k.toInt < lo ∧ ¬ hi < k.toInt ∧ offs[(k.toInt - lo).toNat]? = some off ∧ (pc : Int) + off = (tgt : Int))
    (kk : W p l e R s m args below meth c H locs cells slots Q (F0 m tgt ls rest)) : W p l e R s m args below meth c H locs cells slots Q (F0 m pc ls (.int x :: rest)) := by
  subst h
  exact lv_tableIn hx hb hdg h1.1 h1.2.1 h1.2.2.1 h1.2.2.2 kk
theorem g_lin (hx : p.tables.exec = Jvm.exec) (hb : c.code = cc) {dflt : Int} {ps : Array (Int × Int)} {len : Nat} {x k : Int32} {off : Int} {tgt : Nat} (hdg : decode cc pc = .ok (.lookupswitch dflt ps, len)) (h : x = k) (h1 : (ps.toList.zip (ps.toList.drop 1)).all (fun (a, next) => a.1 < next.1) = true ∧ Op.lookupswitch.offset ps.toList dflt k.toInt = off ∧ (pc : Int) + off = (tgt : Int))
    (kk : W p l e R s m args below meth c H locs cells slots Q (F0 m tgt ls rest)) : W p l e R s m args below meth c H locs cells slots Q (F0 m pc ls (.int x :: rest)) := by
  subst h
  exact lv_lookup hx hb hdg h1.1 h1.2.1 h1.2.2 kk
end GCALL
theorem g_if {α : Type} {c : Prop} {d : Decidable c} {a : Option α} {R : α} (h : (if c then none else a) = some R) : ¬ c ∧ a = some R := by
  by_cases hc : c
  · rw [if_pos hc] at h; cases h
  · rw [if_neg hc] at h; exact ⟨hc, h⟩
theorem g_ift {α : Type} {c : Prop} {d : Decidable c} {a b : Option α} {R : α} (h : (if c then a else b) = some R) (hc : c) : a = some R := by rw [if_pos hc] at h; exact h
theorem g_iff {α : Type} {c : Prop} {d : Decidable c} {a b : Option α} {R : α} (h : (if c then a else b) = some R) (hc : ¬ c) : b = some R := by rw [if_neg hc] at h; exact h
theorem g_iftn {α : Type} {c : Prop} {d : Decidable c} {a b : Option α} {R : α} (h : (if ¬ c then a else b) = some R) (hc : ¬ c) : a = some R := by rw [if_pos hc] at h; exact h
theorem g_bind {α β : Type} {x : Option α} {f : α → Option β} {R : β} (h : x.bind f = some R) : ∃ a, x = some a ∧ f a = some R := Option.bind_eq_some_iff.mp h
theorem g_some {α : Type} {a R : α} (h : some a = some R) : a = R := Option.some.inj h
def gFuel : Nat := 100000
theorem g_tout {x : Int32} {lo hi : Int} (h : ∀ k : Int, lo ≤ k → k ≤ hi → ¬ x.toInt = k) : x.toInt < lo ∨ hi < x.toInt := by
  by_cases h1 : x.toInt < lo
  · exact Or.inl h1
  · by_cases h2 : hi < x.toInt
    · exact Or.inr h2
    · exact absurd rfl (h x.toInt (by omega) (by omega))
theorem g_bool {v : Int32} (h : ¬ ¬ (v = 0 ∨ v = 1)) : narrow .boolean (.int v) = .int v := by
  rcases Decidable.of_not_not h with rfl | rfl <;> rfl
theorem g_fr {a fr lo : Nat} (h : a ≤ fr) : a ≤ (gR fr lo).frames := h
theorem g_lo {a fr lo : Nat} (h : a ≤ lo) : a ≤ (gR fr lo).locals := h
def gLet {α β : Type} (x : α) (f : α → Option β) : Option β := f x
theorem g_let {α β : Type} {x : α} {f : α → Option β} {R : β} (h : gLet x f = some R) : ∃ y, y = x ∧ f y = some R := ⟨x, rfl, h⟩
