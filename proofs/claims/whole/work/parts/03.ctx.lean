/-! what a method may assume of the machine; the judgement of the abstract machine -/
/-- the String constants: class, entry, text, number -/
def aLits : List (String × Nat × String × Nat) := [("CatNeed$RoomReader", 28, "room thing cat need", 0), ("CatNeed$RuleReader", 26, "lie", 1), ("CatNeed$RuleReader", 112, "cat thing far due knows pace worth on met lost minute", 2), ("CatNeed$RuleReader", 99, "+-*/%", 3), ("CatNeed$RuleReader", 45, "if", 4), ("CatNeed$RuleReader", 68, "[", 5), ("CatNeed$RuleReader", 73, "not", 6), ("CatNeed$RuleReader", 75, "]", 7), ("CatNeed$RuleReader", 82, "<=>", 8), ("CatNeed$RuleReader", 64, "and or", 9), ("CatNeedModel", 286, "room", 10), ("CatNeedModel", 174, "thing", 11), ("CatNeedModel", 172, "cat", 12), ("CatNeedModel", 288, "need", 13), ("CatNeedModel", 326, "lie", 1), ("CatNeedModel", 176, "far", 14), ("CatNeedModel", 178, "due", 15), ("CatNeedModel", 180, "knows", 16), ("CatNeedModel", 181, "pace", 17), ("CatNeedModel", 182, "worth", 18), ("CatNeedModel", 183, "on", 19), ("CatNeedModel", 184, "met", 20), ("CatNeedModel", 185, "lost", 21), ("CatNeedModel", 186, "minute", 22), ("CatNeedModel", 328, "if", 4), ("CatNeedModel", 268, "not", 6), ("CatNeedModel", 282, "and", 23), ("CatNeedModel", 284, "or", 24)]
def aTxts : List (List Int32) := [[114, 111, 111, 109, 32, 116, 104, 105, 110, 103, 32, 99, 97, 116, 32, 110, 101, 101, 100], [108, 105, 101], [99, 97, 116, 32, 116, 104, 105, 110, 103, 32, 102, 97, 114, 32, 100, 117, 101, 32, 107, 110, 111, 119, 115, 32, 112, 97, 99, 101, 32, 119, 111, 114, 116, 104, 32, 111, 110, 32, 109, 101, 116, 32, 108, 111, 115, 116, 32, 109, 105, 110, 117, 116, 101], [43, 45, 42, 47, 37], [105, 102], [91], [110, 111, 116], [93], [60, 61, 62], [97, 110, 100, 32, 111, 114], [114, 111, 111, 109], [116, 104, 105, 110, 103], [99, 97, 116], [110, 101, 101, 100], [102, 97, 114], [100, 117, 101], [107, 110, 111, 119, 115], [112, 97, 99, 101], [119, 111, 114, 116, 104], [111, 110], [109, 101, 116], [108, 111, 115, 116], [109, 105, 110, 117, 116, 101], [97, 110, 100], [111, 114]]
def aNests : List (String × Nat × MethodName × String) := [("CatNeed", 9, yX4_init, "CatNeed"), ("CatNeed", 28, yX5_init, "CatNeed"), ("CatNeed$Whole", 11, yX5_init, "CatNeed"), ("CatNeed$Whole", 20, yX3_init, "CatNeed"), ("CatNeed", 49, yX3_init, "CatNeed"), ("CatNeed", 67, yX1_init, "CatNeed")]
def aTxt (i : Nat) : List Int32 := aTxts.getD i []
def aA (G : aG) : Nat → Prop := fun q => G.2 0 ≤ q
def aTys (G : aG) : List (ClassId × FieldType) := [(G.2 1, .int), (G.2 2, .byte), (G.2 3, .long), (G.2 4, .boolean), (G.2 5, .object "CatNeed$Rule"), (G.2 6, .object "CatNeed$Whole"), (G.2 7, .object "CatNeed$State")]
def aS1 (G : aG) (i : Nat) (U : State) (H : Heap) : Prop := va_O "java/lang/String" (G.2 (100 + i)) (aA G) U H ∧ va_OF "java/lang/String" "coder" "B" (.int 0) (G.2 (100 + i)) (aA G) U H ∧ va_OF "java/lang/String" "value" "[B" (.ref (G.2 (200 + i))) (G.2 (100 + i)) (aA G) U H ∧ va_T .byte (G.2 (200 + i)) (aTxt i).length (fun j => .int ((aTxt i).getD j 0)) (aA G) U H
def aOkH (G : aG) (U : State) (H : Heap) : Prop := (∀ i, i < aTxts.length → aS1 G i U H) ∧ va_Z "java/lang/String" "COMPACT_STRINGS" "Z" (.int 1) (aA G) U H ∧ va_Z "jdk/internal/util/Preconditions" "SIOOBE_FORMATTER" "Ljava/util/function/BiFunction;" (aV G (.retAddr 0)) (aA G) U H
def aOkV (G : aG) (U : State) : Prop := va_K G.1 vwCl (aTys G) U ∧ (∀ q ∈ aLits, vk_R q.1 q.2.1 q.2.2.1 (G.2 (100 + q.2.2.2)) U) ∧ (∀ q ∈ aNests, va_Nw (.methodLinkNest q.1 q.2.1 q.2.2.1 q.2.2.2) U) ∧ va_AO "CatNeed$Rule" U ∧ va_AO "CatNeed$Whole" U ∧ va_AO "CatNeed$State" U
def aOk (G : aG) (U : State) : Prop := aOkV G U ∧ aOkH G U U.heap ∧ G.2 0 ≤ U.heap.size
theorem aOkH.moved {G : aG} {u U : State} {H : Heap} (hvm : u.vm.Alike U.vm) (h : aOkH G u H) : aOkH G U H :=
  ⟨fun i hi => ⟨va_O.moved hvm (h.1 i hi).1, va_OF.moved hvm (h.1 i hi).2.1, va_OF.moved hvm (h.1 i hi).2.2.1, va_T.moved hvm (h.1 i hi).2.2.2⟩, va_Z.moved hvm h.2.1, va_Z.moved hvm h.2.2⟩
theorem aOkH.kept {G : aG} {U : State} {H H1 : Heap} (hq : ∀ a : Nat, a < H.size → ¬ aA G a → H1[a]? = H[a]?) (h : aOkH G U H) : aOkH G U H1 :=
  ⟨fun i hi => ⟨(h.1 i hi).1.kept hq, (h.1 i hi).2.1.kept hq, (h.1 i hi).2.2.1.kept hq, (h.1 i hi).2.2.2.kept hq⟩, va_Z.kept h.2.1 hq, va_Z.kept h.2.2 hq⟩
theorem aOkV.warm {G : aG} {s U : State} (hW : s.WarmedH U.vm) (h : aOkV G s) : aOkV G U :=
  ⟨va_K.moved hW.alike h.1, fun q hq => vk_R.warm hW (h.2.1 q hq), fun q hq => va_Nw.warmM hW (h.2.2.1 q hq), va_AO.moved hW.alike h.2.2.2.1, va_AO.moved hW.alike h.2.2.2.2.1, va_AO.moved hW.alike h.2.2.2.2.2⟩
theorem aOkV.same {G : aG} {s U : State} (hv : U.vm = s.vm) (h : aOkV G s) : aOkV G U :=
  ⟨va_K.moved (by rw [hv]; exact Vm.Alike.refl _) h.1, fun q hq => vk_R.same hv (h.2.1 q hq), fun q hq => va_Nw.same rfl hv.symm (h.2.2.1 q hq), va_AO.moved (by rw [hv]; exact Vm.Alike.refl _) h.2.2.2.1, va_AO.moved (by rw [hv]; exact Vm.Alike.refl _) h.2.2.2.2.1, va_AO.moved (by rw [hv]; exact Vm.Alike.refl _) h.2.2.2.2.2⟩
theorem aOk.calling {G : aG} {U : State} (g : JFrame) (mk : MethodId) (a : Array Value) (h : aOk G U) : aOk G (U.calling g mk a) :=
  ⟨aOkV.same rfl h.1, aOkH.moved (u := U) (U := U.calling g mk a) (Vm.Alike.refl U.vm) h.2.1, h.2.2⟩
theorem aOk.entry {G : aG} {s U : State} {H : Heap} {locs : List Loc} (h : aOk G s) (hS : va_S (aA G) s.heap H locs) (hU : U.heap = H) (hW : s.WarmedH U.vm) : aOk G U :=
  ⟨aOkV.warm hW h.1, by rw [hU]; exact aOkH.moved hW.alike (aOkH.kept hS.2.1 h.2.1), by rw [hU]; exact Nat.le_trans h.2.2 hS.1⟩
/-- the machine at a method's frame: its code, its words, the classes' numbers -/
def aCtx (G : aG) (p : Program) (s : State) (m : MethodId) (args : Array Value) (meth : Method) (cd : Code) (mm : aMM) : Prop :=
  p.tables.exec = Jvm.exec ∧ cd.code = mm.2.1 ∧ meth.sig.returnType = mm.2.2.2 ∧ cd.maxLocals = mm.2.2.1 ∧ s.vm.findClass mm.1.cls = some m.cls ∧ (∀ w ∈ aBIG, w.before args s = true) ∧ meth.locks = false ∧ meth.name = mm.1.name ∧ aOk G s
abbrev aP (μ : Type) : Type := List Value → List Value → μ → Prop
section AM1
variable {μ : Type}
/-- the heap under a memory, what is left of the room, what was written -/
def aHp (rep : μ → Heap → Prop) (G : aG) (R : Room) (s : State) (c b : Nat) (x : μ) (H : Heap) (locs : List Loc) (cells slots : Nat) : Prop :=
  cells + c ≤ R.cells ∧ slots + b ≤ R.slots ∧ rep x H ∧ va_S (aA G) s.heap H locs
/-- what the method's end is worth: from each of its returns the run goes on to what is wanted -/
def aFin (rep : μ → Heap → Prop) (G : aG) (mm : aMM) (Q : Option Value → μ → Prop) (p : Program) (l : Launch) (e : Env) (R : Room) (s : State) (m : MethodId) (args : Array Value) (below : List Frame) (meth : Method) (cd : Code) (QQ : State → Prop) : Prop :=
  ∀ (v : Option Value) (x : μ) (H : Heap) (locs : List Loc) (cells slots pc : Nat) (arr : Array Slot), Q v x → aHp rep G R s 0 0 x H locs cells slots →
    match v with
    | none => mm.2.2.2 = none → decode mm.2.1 pc = .ok (.return_, 1) → W p l e R s m args below meth cd H locs cells slots QQ (F0 m pc arr [])
    | some (.int a) => (∃ ty, mm.2.2.2 = some ty ∧ narrow ty (.int a) = .int a) → decode mm.2.1 pc = .ok (.ireturn, 1) → W p l e R s m args below meth cd H locs cells slots QQ (F0 m pc arr [.int a])
    | some (.long a) => mm.2.2.2 = some .long → decode mm.2.1 pc = .ok (.lreturn, 1) → W p l e R s m args below meth cd H locs cells slots QQ (F0 m pc arr [.long a])
    | some (.ref a) => (∃ C, mm.2.2.2 = some (.object C)) → decode mm.2.1 pc = .ok (.areturn, 1) → W p l e R s m args below meth cd H locs cells slots QQ (F0 m pc arr [.ref (aLoc G a)])
    | some .null => (∃ C, mm.2.2.2 = some (.object C)) → decode mm.2.1 pc = .ok (.areturn, 1) → W p l e R s m args below meth cd H locs cells slots QQ (F0 m pc arr [.null])
    | some _ => True
def aPr (rep : μ → Heap → Prop) (G : aG) (d : Nat) (mm : aMM) (Q : Option Value → μ → Prop) (p : Program) (l : Launch) (e : Env) (R : Room) (s : State) (m : MethodId) (args : Array Value) (below : List Frame) (meth : Method) (cd : Code) (QQ : State → Prop) : Prop :=
  aCtx G p s m args meth cd mm ∧ (d + 2 ≤ R.frames ∧ 40 * d + 60 ≤ R.locals) ∧ aFin rep G mm Q p l e R s m args below meth cd QQ
/-- from place pc with these locals, this stack, this memory the method ends, with Q of its answer and the memory then; c cells and b slots may still be made -/
def aT (rep : μ → Heap → Prop) (G : aG) (l : Launch) (d : Nat) (mm : aMM) (c b : Nat) (Q : Option Value → μ → Prop) (pc : Nat) (ls st : List Value) (x : μ) : Prop :=
  ∀ (p : Program) (e : Env) (R : Room) (s : State) (m : MethodId) (args : Array Value) (below : List Frame) (meth : Method) (cd : Code) (QQ : State → Prop), aPr rep G d mm Q p l e R s m args below meth cd QQ →
    ∀ (H : Heap) (locs : List Loc) (arr : Array Slot) (cells slots : Nat), aHp rep G R s c b x H locs cells slots → aLR G mm.2.2.1 ls arr → W p l e R s m args below meth cd H locs cells slots QQ (F0 m pc arr (st.map (aV G)))
/-- a transformer is sound at a place -/
def aS (rep : μ → Heap → Prop) (G : aG) (l : Launch) (d : Nat) (mm : aMM) (c b : Nat) (Q : Option Value → μ → Prop) (pc : Nat) (K : aP μ) : Prop := ∀ ls st x, K ls st x → aT rep G l d mm c b Q pc ls st x
end AM1

