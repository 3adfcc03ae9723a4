/-! THE CLEAN MACHINE: a heap of numbered cells (0: null; 1..299: cells outside; from 300 on: the world's), typed, total; its steps in the form of weakest preconditions -/
abbrev CH : Type := Nat × (Nat → Nat × Nat) × (Nat → Nat → Int32) × (Nat → Nat → Int64) × (Nat → Nat → Nat) × (Nat → Nat → UInt64)
def hN (h : CH) : Nat := h.1
def hT (h : CH) (a : Nat) : Nat × Nat := h.2.1 a
def hI (h : CH) (a k : Nat) : Int32 := h.2.2.1 a k
def hJ (h : CH) (a k : Nat) : Int64 := h.2.2.2.1 a k
def hR (h : CH) (a k : Nat) : Nat := h.2.2.2.2.1 a k
def hD (h : CH) (a k : Nat) : UInt64 := h.2.2.2.2.2 a k
def up2 {α : Type} (f : Nat → Nat → α) (a k : Nat) (v : α) : Nat → Nat → α := fun x y => if x = a ∧ y = k then v else f x y
def sI (h : CH) (a k : Nat) (v : Int32) : CH := (h.1, h.2.1, up2 h.2.2.1 a k v, h.2.2.2)
def sJ (h : CH) (a k : Nat) (v : Int64) : CH := (h.1, h.2.1, h.2.2.1, up2 h.2.2.2.1 a k v, h.2.2.2.2)
def sR (h : CH) (a k : Nat) (v : Nat) : CH := (h.1, h.2.1, h.2.2.1, h.2.2.2.1, up2 h.2.2.2.2.1 a k v, h.2.2.2.2.2)
def sD (h : CH) (a k : Nat) (v : UInt64) : CH := (h.1, h.2.1, h.2.2.1, h.2.2.2.1, h.2.2.2.2.1, up2 h.2.2.2.2.2 a k v)
def nw (h : CH) (t : Nat × Nat) : CH := (h.1 + 1, fun a => if a = h.1 then t else h.2.1 a, fun a k => if a = h.1 then 0 else h.2.2.1 a k, fun a k => if a = h.1 then 0 else h.2.2.2.1 a k, fun a k => if a = h.1 then 0 else h.2.2.2.2.1 a k, fun a k => if a = h.1 then 0 else h.2.2.2.2.2 a k)
/-- ints copied from one array to another (or within one) -/
def cpI (h : CH) (a b sp dp n : Nat) : CH := (h.1, h.2.1, fun x k => if x = b then va_cpy (hI h a) (hI h b) sp dp n k else h.2.2.1 x k, h.2.2.2)
theorem hI_cpI (h : CH) (a b sp dp n x k : Nat) : hI (cpI h a b sp dp n) x k = if x = b then va_cpy (hI h a) (hI h b) sp dp n k else hI h x k := rfl
def W0 : Nat := 300
/-- the fields' types of each class of the world: 0 int, 1 long, 2 reference, 3 boolean, 4 char, 5 byte -/
def FT : Nat → List Nat
  | 0 => [2, 5]
  | 1 => [0]
  | 2 => [2, 2, 2, 2, 0, 2]
  | 3 => [0, 2, 0]
  | 4 => [0, 0, 0, 0, 0]
  | 5 => [3, 2, 2, 2, 0, 0]
  | 6 => [2, 2, 0]
  | 7 => [0, 0, 0, 3, 0, 0, 0, 3, 3, 3, 3, 0, 3]
  | 8 => [0, 2, 2]
  | 9 => [2, 2, 0]
  | 10 => [2, 0, 0, 0]
  | 11 => [2, 0, 2, 2, 2, 2]
  | 12 => [3, 0, 0]
  | 13 => [2, 2, 2, 2, 2, 2, 2, 2, 0, 2, 4, 0, 0, 0, 3, 0]
  | 14 => [0, 2, 2]
  | 15 => [0, 0, 0, 1, 1, 1, 3, 3, 3, 0, 1, 3]
  | 16 => [0, 2, 2, 2, 2, 2, 2, 2, 0, 4, 0, 0, 0, 0, 0, 2, 2, 3, 0, 3, 0, 2, 2, 0, 0, 0, 0, 0, 1]
  | _ => []
/-- the arrays' types, by their kinds less 100 -/
def ATy : Nat → FieldType
  | 0 => .int
  | 1 => .long
  | 2 => .boolean
  | 3 => .double
  | 4 => .object "Writeback$Device"
  | 5 => .object "Writeback$Frame"
  | 6 => .object "Writeback$Image"
  | 7 => .object "WritebackModel$Page"
  | _ => .object "java/lang/Object"
/-- a clean reference, as the machine has it -/
def ro (ad : Nat → Nat) (a : Nat) : Option Nat := if a = 0 then none else some (ad a)
def cv (ad : Nat → Nat) : Value → Value
  | .ref a => va_rf (ro ad a)
  | v => v
def cfv (ad : Nat → Nat) (h : CH) (a k : Nat) : Nat → Value
  | 1 => .long (hJ h a k)
  | 2 => va_rf (ro ad (hR h a k))
  | _ => .int (hI h a k)
def cfs (ad : Nat → Nat) (h : CH) (a c : Nat) : List Value := (List.range (FT c).length).map (fun k => cfv ad h a k ((FT c).getD k 0))
def carr (ad : Nat → Nat) (h : CH) (a t : Nat) : vp_A := if t = 101 then ((hT h a).2, .inr (.inl (hJ h a))) else if t = 103 then ((hT h a).2, .inr (.inr (.inr (.inl (hD h a))))) else if 104 ≤ t then ((hT h a).2, .inr (.inr (.inr (.inr (fun j => ro ad (hR h a j)))))) else ((hT h a).2, .inl (hI h a))
def ccell (dA : Nat → ClassId) (ad : Nat → Nat) (h : CH) (a : Nat) : va_E := if (hT h a).1 < 100 then .inr ((hT h a).1, cfs ad h a (hT h a).1) else .inl (dA ((hT h a).1 - 100), carr ad h a (hT h a).1)
def wsOf (dA : Nat → ClassId) (ad : Nat → Nat) (h : CH) : va_W := (List.range (hN h - W0)).map (fun i => (ad (W0 + i), ccell dA ad h (W0 + i)))
/-- a clean heap is well made: references are to cells that there are; cells outside have the kind 99 -/
def WFh (h : CH) : Prop := W0 ≤ hN h ∧ (∀ a k, hR h a k < hN h) ∧ (∀ a, a < W0 → (hT h a).1 = 99) ∧ ∀ a, a < hN h → (hT h a).1 ≤ 108
def refOK (n : Nat) : Value → Prop
  | .ref a => a < n
  | _ => True
/-- the fixed things of a run: the classes' numbers, the arrays' classes, where the base ends, the base, the cells outside -/
abbrev Gc : Type := va_G × (Nat → ClassId) × Nat × Heap × (Nat → Nat)
def gD (g : Gc) : va_G := g.1
def gA (g : Gc) : Nat → ClassId := g.2.1
def gB (g : Gc) : Nat := g.2.2.1
def gH (g : Gc) : Heap := g.2.2.2.1
def ga (g : Gc) : Nat → Nat := g.2.2.2.2
def gF (g : Gc) : Nat → Prop := fun q => gB g ≤ q
def tysA (dA : Nat → ClassId) : List (ClassId × FieldType) := [(dA 0, ATy 0), (dA 1, ATy 1), (dA 2, ATy 2), (dA 3, ATy 3), (dA 4, ATy 4), (dA 5, ATy 5), (dA 6, ATy 6), (dA 7, ATy 7), (dA 8, ATy 8)]
def Rel (g : Gc) (ad : Nat → Nat) (h : CH) (H : Heap) : Prop := va_P (gD g) vwCl (wsOf (gA g) ad h) H ∧ va_D (gF g) (wsOf (gA g) ad h) ∧ WFh h ∧ ∀ a, a < W0 → ad a = ga g a
/-- the cells outside that a run needs -/
def GE (g : Gc) (U : State) : Prop := vx_Zq Bundle.tN "UNASSIGNED_STACK" Bundle.steD (gF g) U (gH g) ∧ vx_Zq Bundle.tN "SUPPRESSED_SENTINEL" Bundle.listD (gF g) U (gH g) ∧ va_AO "Writeback$Device" U ∧ va_AO "Writeback$Frame" U ∧ va_AO "Writeback$Image" U ∧ va_AO "WritebackModel$Page" U ∧ va_AO "java/lang/Object" U
/-- words that hold on, though no good ones: what is castable, links within a nest -/
def okOW : Cond → Bool
  | .castable _ _ => true
  | .fieldLinkNest _ _ _ _ _ _ => true
  | .methodLinkNest _ _ _ _ => true
  | .declares _ => true
  | _ => false
def OW : List Cond := lw_tbl.filter okOW
theorem okOW_tab {w : Cond} (h : okOW w = true) : w.onTables = true := by
  cases w <;> first | rfl | cases h
theorem okOW_warm {w : Cond} (h : okOW w = true) {s U : State} (hW : s.WarmedH U.vm) (hw : va_Nw w s) : va_Nw w U := by
  cases w <;> first | exact va_Nw.warmC hW hw | exact va_Nw.warmF hW hw | exact va_Nw.warmM hW hw | exact va_Nw.warmD hW hw | cases h
/-- exceptions that a handler of another class passes over -/
def NCL : List (String × String) := [("java/lang/UnsupportedOperationException", "java/lang/IndexOutOfBoundsException"), ("java/lang/UnsupportedOperationException", "java/lang/IllegalArgumentException"), ("java/lang/IllegalStateException", "java/lang/IndexOutOfBoundsException"), ("java/lang/IllegalStateException", "java/lang/IllegalArgumentException"), ("java/lang/IllegalStateException", "java/lang/UnsupportedOperationException"), ("java/lang/IllegalArgumentException", "java/lang/IndexOutOfBoundsException"), ("java/util/NoSuchElementException", "java/lang/IndexOutOfBoundsException")]
/-- the texts of the exceptions that are thrown -/
def STR (U : State) : Prop := ∀ own k tx, Cond.stringRef own k tx ∈ lw_tbl → ∃ a, vk_R own k tx a U
/-- an int of the script, as it stands among the fixed things -/
def scv (n : Nat) : Int32 := (UInt32.ofNat n).toInt32
/-- the cells outside by their numbers: 1..256 the cached Integers, 257 the lists' empty array, 258 the script (its length and ints behind 300), 259 the class object of Object[], 260 the text "lfcb", 261 its bytes, 262 the Integers' cache -/
def GEx (g : Gc) (U : State) : Prop := vb_C (fun k => ga g (k + 1)) (gF g) U (gH g) ∧
  va_Z "java/lang/Integer$IntegerCache" "high" "I" (.int 127) (gF g) U (gH g) ∧
  va_Z "java/lang/Integer$IntegerCache" "cache" "[Ljava/lang/Integer;" (.ref (ga g 262)) (gF g) U (gH g) ∧
  va_T (.object "java/lang/Integer") (ga g 262) 256 (fun k => .ref (ga g (k + 1))) (gF g) U (gH g) ∧
  va_Z "java/util/ArrayList" "DEFAULTCAPACITY_EMPTY_ELEMENTDATA" "[Ljava/lang/Object;" (.ref (ga g 257)) (gF g) U (gH g) ∧
  va_T (.object "java/lang/Object") (ga g 257) 0 (fun _ => .null) (gF g) U (gH g) ∧
  (va_T .int (ga g 258) (ga g 300) (fun k => .int (scv (ga g (301 + k)))) (gF g) U (gH g) ∧ ga g 300 ≤ 2048) ∧
  va_Mi "[Ljava/lang/Object;" (ga g 259) U ∧ va_Dc U ∧
  va_Z "java/lang/String" "COMPACT_STRINGS" "Z" (.int 1) (gF g) U (gH g) ∧
  vk_S 1 [4] [[108, 102, 99, 98]] (fun _ => ga g 260) (fun _ => ga g 261) (gF g) U (gH g) ∧
  vk_R "WritebackModel" 312 "lfcb" (ga g 260) U
theorem GEx.moved {g : Gc} {u U : State} (hvm : u.vm.Alike U.vm) (hr : vk_R "WritebackModel" 312 "lfcb" (ga g 260) U) (h : GEx g u) : GEx g U := ⟨h.1.moved hvm, h.2.1.moved hvm, h.2.2.1.moved hvm, h.2.2.2.1.moved hvm, h.2.2.2.2.1.moved hvm, h.2.2.2.2.2.1.moved hvm, ⟨h.2.2.2.2.2.2.1.1.moved hvm, h.2.2.2.2.2.2.1.2⟩, h.2.2.2.2.2.2.2.1.moved hvm, h.2.2.2.2.2.2.2.2.1.moved hvm, h.2.2.2.2.2.2.2.2.2.1.moved hvm, h.2.2.2.2.2.2.2.2.2.2.1.moved hvm, hr⟩
theorem GEx.warm {g : Gc} {u U : State} (hW : u.WarmedH U.vm) (h : GEx g u) : GEx g U := h.moved hW.alike (h.2.2.2.2.2.2.2.2.2.2.2.warm hW)
theorem GEx.same {g : Gc} {u U : State} (hv : u.vm = U.vm) (h : GEx g u) : GEx g U := h.moved (hv ▸ Vm.Alike.refl _) (h.2.2.2.2.2.2.2.2.2.2.2.same hv.symm)
def GX (g : Gc) (U : State) : Prop := va_K (gD g) vwCl (tysA (gA g)) U ∧ GE g U ∧ (gH g).size = gB g ∧ (∀ w ∈ OW, va_Nw w U) ∧ (∀ q ∈ NCL, va_Nc q.1 q.2 U) ∧ STR U ∧ GEx g U
theorem GE.moved {g : Gc} {u U : State} (hvm : u.vm.Alike U.vm) (h : GE g u) : GE g U := ⟨h.1.moved hvm, h.2.1.moved hvm, h.2.2.1.moved hvm, h.2.2.2.1.moved hvm, h.2.2.2.2.1.moved hvm, h.2.2.2.2.2.1.moved hvm, h.2.2.2.2.2.2.moved hvm⟩
theorem GX.warm {g : Gc} {u U : State} (hW : u.WarmedH U.vm) (h : GX g u) : GX g U := ⟨va_K.moved hW.alike h.1, h.2.1.moved hW.alike, h.2.2.1, fun w hw => okOW_warm (List.mem_filter.mp hw).2 hW (h.2.2.2.1 w hw), fun q hq => (h.2.2.2.2.1 q hq).moved hW.alike, fun own k tx hw => (h.2.2.2.2.2.1 own k tx hw).imp fun a q => q.warm hW, h.2.2.2.2.2.2.warm hW⟩
theorem GX.same {g : Gc} {u U : State} (hv : u.vm = U.vm) (h : GX g u) : GX g U := ⟨va_K.moved (hv ▸ Vm.Alike.refl _) h.1, h.2.1.moved (hv ▸ Vm.Alike.refl _), h.2.2.1, fun w hw => va_Nw.same (okOW_tab (List.mem_filter.mp hw).2) hv (h.2.2.2.1 w hw), fun q hq => (h.2.2.2.2.1 q hq).moved (hv ▸ Vm.Alike.refl _), fun own k tx hw => (h.2.2.2.2.2.1 own k tx hw).imp fun a q => q.same hv.symm, h.2.2.2.2.2.2.same hv⟩
def AW : List Cond := lw_tbl.filter goodWord
theorem AW_good : ∀ w ∈ AW, goodWord w = true := fun w hw => (List.mem_filter.mp hw).2
/-- a method's activation -/
def Act (g : Gc) (p : Program) (l : Launch) (s : State) (m : MethodId) (args : Array Value) (meth : Method) (c : Code) (cc : ByteArray) (nL : Nat) (own : String) : Prop :=
  p.tables.exec = Jvm.exec ∧ c.code = cc ∧ c.maxLocals = nL ∧ s.vm.findClass own = some m.cls ∧ (∀ w ∈ AW, w.before args s = true) ∧ GX g s ∧ meth.locks = false ∧ l.stackTraces = false ∧ gB g ≤ s.heap.size ∧ ∀ q, q < gB g → s.heap[q]? = (gH g)[q]?
/-- the locals: what the clean ones name, the machine's hold; .null is a place of which nothing is said -/
def lvr (ad : Nat → Nat) (ls : Array Slot) (lv : List Value) (nL : Nat) : Prop := ls.size = nL ∧ lv.length ≤ nL ∧ lv_wf ls ∧ ∀ (i : Nat) (v : Value), lv[i]? = some v → v ≠ .null → ls[i]? = some (.val (cv ad v))
def Wok (g : Gc) (n0 : Nat) (ads : Nat → Nat) (p : Program) (l : Launch) (e : Env) (R : Room) (s : State) (m : MethodId) (args : Array Value) (below : List Frame) (meth : Method) (c : Code) (nL : Nat) (Qf : State → Prop) (pc : Nat) (lv st : List Value) (h : CH) (cs ss : Nat) : Prop :=
  ∀ (ad : Nat → Nat) (H : Heap) (locs : List Loc) (ls : Array Slot), Rel g ad h H → n0 ≤ hN h → (∀ a, a < n0 → ad a = ads a) → va_S (gF g) s.heap H locs → lvr ad ls lv nL → (∀ v ∈ lv, refOK (hN h) v) → (∀ v ∈ st, refOK (hN h) v) → W p l e R s m args below meth c H locs cs ss Qf (F0 m pc ls (st.map (cv ad)))
/-- what an instruction does, as a weakest precondition: where it goes on, and the method's end -/
abbrev XT : Type := Nat → List Value → List Value → CH → Nat → Nat → Prop
abbrev QT : Type := List Value ⊕ String → CH → Prop
abbrev Sem : Type := XT → QT → List Value → List Value → CH → Nat → Nat → Prop
def Mono (sm : Sem) : Prop := ∀ (X Y : XT) (Q Q' : QT), (∀ pc lv st h c s, X pc lv st h c s → Y pc lv st h c s) → (∀ r h, Q r h → Q' r h) → ∀ lv st h c s, sm X Q lv st h c s → sm Y Q' lv st h c s
/-- from here the method's end is reached with Q: the least predicate closed under the code's steps -/
def wpI (code : Nat → Sem) (Q : QT) : XT := fun pc lv st h c s => ∀ X : XT, (∀ pc lv st h c s, code pc X Q lv st h c s → X pc lv st h c s) → X pc lv st h c s
theorem wpI.step {code : Nat → Sem} (hm : ∀ pc, Mono (code pc)) {Q : QT} {pc : Nat} {lv st : List Value} {h : CH} {c s : Nat} (k : code pc (wpI code Q) Q lv st h c s) : wpI code Q pc lv st h c s := fun X hX => hX _ _ _ _ _ _ (hm pc _ X Q Q (fun _ _ _ _ _ _ hw => hw X hX) (fun _ _ q => q) _ _ _ _ _ k)
theorem wpI.mono {code : Nat → Sem} (hm : ∀ pc, Mono (code pc)) {Q Q' : QT} (hQ : ∀ r h, Q r h → Q' r h) {pc : Nat} {lv st : List Value} {h : CH} {c s : Nat} (k : wpI code Q pc lv st h c s) : wpI code Q' pc lv st h c s := fun X hX => k X (fun pc lv st h c s q => hX _ _ _ _ _ _ (hm pc X X Q Q' (fun _ _ _ _ _ _ z => z) hQ _ _ _ _ _ q))
/-- some steps at once, up to the places 'stop' -/
def run (code : Nat → Sem) (Q : QT) (stop : List Nat) : Nat → XT
  | 0 => wpI code Q
  | n + 1 => fun pc lv st h c s => if stop.contains pc = true then wpI code Q pc lv st h c s else code pc (run code Q stop n) Q lv st h c s
theorem run_wp {code : Nat → Sem} (hm : ∀ pc, Mono (code pc)) {Q : QT} {stop : List Nat} : ∀ (n : Nat) (pc : Nat) (lv st : List Value) (h : CH) (c s : Nat), run code Q stop n pc lv st h c s → wpI code Q pc lv st h c s
  | 0, _, _, _, _, _, _, k => k
  | n + 1, pc, lv, st, h, c, s, k => by
    unfold run at k
    split at k
    · exact k
    · exact wpI.step hm (hm pc _ _ Q Q (fun _ _ _ _ _ _ hw => run_wp hm n _ _ _ _ _ _ hw) (fun _ _ q => q) _ _ _ _ _ k)
/-- begin with the step at pc, stop where told -/
theorem wp_go {code : Nat → Sem} (hm : ∀ pc, Mono (code pc)) {Q : QT} (stop : List Nat) (n : Nat) {pc : Nat} {lv st : List Value} {h : CH} {c s : Nat} (k : code pc (run code Q stop n) Q lv st h c s) : wpI code Q pc lv st h c s := wpI.step hm (hm pc _ _ Q Q (fun _ _ _ _ _ _ hw => run_wp hm n _ _ _ _ _ _ hw) (fun _ _ q => q) _ _ _ _ _ k)
/-! the heap's laws -/
theorem up2_s {α : Type} (f : Nat → Nat → α) (a k : Nat) (v : α) : up2 f a k v a k = v := if_pos ⟨rfl, rfl⟩
theorem hN_sI (h : CH) (a k : Nat) (v : Int32) : hN (sI h a k v) = hN h := rfl
theorem hN_sJ (h : CH) (a k : Nat) (v : Int64) : hN (sJ h a k v) = hN h := rfl
theorem hN_sR (h : CH) (a k : Nat) (v : Nat) : hN (sR h a k v) = hN h := rfl
theorem hN_sD (h : CH) (a k : Nat) (v : UInt64) : hN (sD h a k v) = hN h := rfl
theorem hT_sI (h : CH) (a k : Nat) (v : Int32) (b : Nat) : hT (sI h a k v) b = hT h b := rfl
theorem hT_sJ (h : CH) (a k : Nat) (v : Int64) (b : Nat) : hT (sJ h a k v) b = hT h b := rfl
theorem hT_sR (h : CH) (a k : Nat) (v : Nat) (b : Nat) : hT (sR h a k v) b = hT h b := rfl
theorem hT_sD (h : CH) (a k : Nat) (v : UInt64) (b : Nat) : hT (sD h a k v) b = hT h b := rfl
theorem hI_sI (h : CH) (a k : Nat) (v : Int32) (b j : Nat) : hI (sI h a k v) b j = if b = a ∧ j = k then v else hI h b j := rfl
theorem hI_sJ (h : CH) (a k : Nat) (v : Int64) (b j : Nat) : hI (sJ h a k v) b j = hI h b j := rfl
theorem hI_sR (h : CH) (a k : Nat) (v : Nat) (b j : Nat) : hI (sR h a k v) b j = hI h b j := rfl
theorem hI_sD (h : CH) (a k : Nat) (v : UInt64) (b j : Nat) : hI (sD h a k v) b j = hI h b j := rfl
theorem hJ_sI (h : CH) (a k : Nat) (v : Int32) (b j : Nat) : hJ (sI h a k v) b j = hJ h b j := rfl
theorem hJ_sJ (h : CH) (a k : Nat) (v : Int64) (b j : Nat) : hJ (sJ h a k v) b j = if b = a ∧ j = k then v else hJ h b j := rfl
theorem hJ_sR (h : CH) (a k : Nat) (v : Nat) (b j : Nat) : hJ (sR h a k v) b j = hJ h b j := rfl
theorem hJ_sD (h : CH) (a k : Nat) (v : UInt64) (b j : Nat) : hJ (sD h a k v) b j = hJ h b j := rfl
theorem hR_sI (h : CH) (a k : Nat) (v : Int32) (b j : Nat) : hR (sI h a k v) b j = hR h b j := rfl
theorem hR_sJ (h : CH) (a k : Nat) (v : Int64) (b j : Nat) : hR (sJ h a k v) b j = hR h b j := rfl
theorem hR_sR (h : CH) (a k : Nat) (v : Nat) (b j : Nat) : hR (sR h a k v) b j = if b = a ∧ j = k then v else hR h b j := rfl
theorem hR_sD (h : CH) (a k : Nat) (v : UInt64) (b j : Nat) : hR (sD h a k v) b j = hR h b j := rfl
theorem hD_sI (h : CH) (a k : Nat) (v : Int32) (b j : Nat) : hD (sI h a k v) b j = hD h b j := rfl
theorem hD_sJ (h : CH) (a k : Nat) (v : Int64) (b j : Nat) : hD (sJ h a k v) b j = hD h b j := rfl
theorem hD_sR (h : CH) (a k : Nat) (v : Nat) (b j : Nat) : hD (sR h a k v) b j = hD h b j := rfl
theorem hD_sD (h : CH) (a k : Nat) (v : UInt64) (b j : Nat) : hD (sD h a k v) b j = if b = a ∧ j = k then v else hD h b j := rfl
theorem hN_nw (h : CH) (t : Nat × Nat) : hN (nw h t) = hN h + 1 := rfl
theorem hT_nw (h : CH) (t : Nat × Nat) (b : Nat) : hT (nw h t) b = if b = hN h then t else hT h b := rfl
theorem hI_nw (h : CH) (t : Nat × Nat) (b j : Nat) : hI (nw h t) b j = if b = hN h then 0 else hI h b j := rfl
theorem hJ_nw (h : CH) (t : Nat × Nat) (b j : Nat) : hJ (nw h t) b j = if b = hN h then 0 else hJ h b j := rfl
theorem hR_nw (h : CH) (t : Nat × Nat) (b j : Nat) : hR (nw h t) b j = if b = hN h then 0 else hR h b j := rfl
theorem hD_nw (h : CH) (t : Nat × Nat) (b j : Nat) : hD (nw h t) b j = if b = hN h then 0 else hD h b j := rfl
/-! the clean heap beside the machine's -/
theorem wsOf_at {dA : Nat → ClassId} {ad : Nat → Nat} {h : CH} {a : Nat} (h1 : W0 ≤ a) (h2 : a < hN h) : (wsOf dA ad h)[a - W0]? = some (ad a, ccell dA ad h a) := by
  have e : W0 + (a - W0) = a := by omega
  unfold wsOf
  rw [List.getElem?_map, List.getElem?_range (by omega)]
  simp [e]
theorem wsOf_get {dA : Nat → ClassId} {ad : Nat → Nat} {h : CH} {k : Nat} {q : Nat × va_E} (hk : (wsOf dA ad h)[k]? = some q) : W0 + k < hN h ∧ q = (ad (W0 + k), ccell dA ad h (W0 + k)) := by
  unfold wsOf at hk
  rw [List.getElem?_map] at hk
  cases hr : (List.range (hN h - W0))[k]? with
  | none => rw [hr] at hk; cases hk
  | some i =>
    rw [hr] at hk
    have h1 := List.getElem?_eq_some_iff.mp hr
    obtain ⟨h2, h3⟩ := h1
    simp at h2 h3
    subst h3
    refine ⟨by omega, ?_⟩
    have := Option.some.inj hk
    exact this.symm
theorem wsOf_set {dA : Nat → ClassId} {ad : Nat → Nat} {h h' : CH} {a : Nat} (h1 : W0 ≤ a) (h2 : a < hN h) (hn : hN h' = hN h) (hc : ∀ b, b ≠ a → ccell dA ad h' b = ccell dA ad h b) : wsOf dA ad h' = (wsOf dA ad h).set (a - W0) (ad a, ccell dA ad h' a) := by
  apply List.ext_getElem?
  intro k
  rw [List.getElem?_set]
  unfold wsOf
  rw [hn]
  simp only [List.length_map, List.length_range, List.getElem?_map]
  by_cases hk : a - W0 = k
  · subst hk
    rw [if_pos rfl, if_pos (by omega), List.getElem?_range (by omega)]
    have e : W0 + (a - W0) = a := by omega
    simp [e]
  · rw [if_neg hk]
    cases hr : (List.range (hN h - W0))[k]? with
    | none => rfl
    | some i =>
      have h3 := (List.getElem?_eq_some_iff.mp hr)
      obtain ⟨h4, h5⟩ := h3
      simp at h4 h5
      subst h5
      show some (ad (W0 + k), ccell dA ad h' (W0 + k)) = some (ad (W0 + k), ccell dA ad h (W0 + k))
      rw [hc (W0 + k) (by omega)]
theorem ro_congr {ad ad' : Nat → Nat} {n x : Nat} (h : ∀ a, a < n → ad' a = ad a) (hx : x < n) : ro ad' x = ro ad x := by
  unfold ro
  rw [h x hx]
theorem cv_congr {ad ad' : Nat → Nat} {n : Nat} (h : ∀ a, a < n → ad' a = ad a) {v : Value} (hv : refOK n v) : cv ad' v = cv ad v := by
  cases v <;> first | rfl | (show va_rf _ = va_rf _; rw [ro_congr h hv])
theorem cfv_congr {ad ad' : Nat → Nat} {h : CH} (hw : ∀ a k, hR h a k < hN h) (ha : ∀ a, a < hN h → ad' a = ad a) (a k t : Nat) : cfv ad' h a k t = cfv ad h a k t := by
  unfold cfv
  split
  · rfl
  · rw [ro_congr ha (hw a k)]
  · rfl
theorem carr_congr {ad ad' : Nat → Nat} {h : CH} (hw : ∀ a k, hR h a k < hN h) (ha : ∀ a, a < hN h → ad' a = ad a) (a t : Nat) : carr ad' h a t = carr ad h a t := by
  have e : (fun j => ro ad' (hR h a j)) = (fun j => ro ad (hR h a j)) := funext fun j => ro_congr ha (hw a j)
  unfold carr
  rw [e]
theorem ccell_congr {dA : Nat → ClassId} {ad ad' : Nat → Nat} {h : CH} (hw : ∀ a k, hR h a k < hN h) (ha : ∀ a, a < hN h → ad' a = ad a) (a : Nat) : ccell dA ad' h a = ccell dA ad h a := by
  unfold ccell cfs
  split
  · have e : (fun k => cfv ad' h a k ((FT (hT h a).1).getD k 0)) = (fun k => cfv ad h a k ((FT (hT h a).1).getD k 0)) := funext fun k => cfv_congr hw ha a k _
    rw [e]
  · rw [carr_congr hw ha]
theorem ccell_obj {dA : Nat → ClassId} {ad : Nat → Nat} {h : CH} {a c : Nat} (hc : (hT h a).1 = c) (hlt : c < 100) : ccell dA ad h a = .inr (c, cfs ad h a c) := by
  unfold ccell
  rw [hc, if_pos hlt]
theorem ccell_arr {dA : Nat → ClassId} {ad : Nat → Nat} {h : CH} {a c : Nat} (hc : (hT h a).1 = 100 + c) : ccell dA ad h a = .inl (dA c, carr ad h a (100 + c)) := by
  unfold ccell
  rw [hc, if_neg (by omega), Nat.add_sub_cancel_left]
theorem cfs_at {ad : Nat → Nat} {h : CH} {a c k : Nat} (hk : k < (FT c).length) : (cfs ad h a c)[k]? = some (cfv ad h a k ((FT c).getD k 0)) := by
  unfold cfs
  rw [List.getElem?_map, List.getElem?_range hk]
  rfl
theorem cfs_set {ad : Nat → Nat} {h h' : CH} {a c k : Nat} {v : Value} (hv : cfv ad h' a k ((FT c).getD k 0) = v) (ho : ∀ j t, j ≠ k → cfv ad h' a j t = cfv ad h a j t) : (cfs ad h a c).set k v = cfs ad h' a c := by
  apply List.ext_getElem?
  intro j
  rw [List.getElem?_set]
  unfold cfs
  simp only [List.length_map, List.length_range, List.getElem?_map]
  by_cases hj : k = j
  · subst hj
    rw [if_pos rfl]
    by_cases hl : k < (FT c).length
    · rw [if_pos hl, List.getElem?_range hl]
      show some v = some (cfv ad h' a k ((FT c).getD k 0))
      rw [hv]
    · rw [if_neg hl, List.getElem?_eq_none (by simpa using hl)]
      rfl
  · rw [if_neg hj]
    cases hr : (List.range (FT c).length)[j]? with
    | none => rfl
    | some i =>
      obtain ⟨h4, h5⟩ := List.getElem?_eq_some_iff.mp hr
      simp at h4 h5
      subst h5
      show some (cfv ad h a j _) = some (cfv ad h' a j _)
      rw [ho j _ (fun q => hj q.symm)]
theorem carr_len (ad : Nat → Nat) (h : CH) (a t : Nat) : (carr ad h a t).1 = (hT h a).2 := by
  unfold carr
  split
  · rfl
  · split
    · rfl
    · split <;> rfl
theorem ccell100 {dA : Nat → ClassId} {ad : Nat → Nat} {h : CH} {a : Nat} (hc : (hT h a).1 = 100) : ccell dA ad h a = .inl (dA 0, (hT h a).2, .inl (hI h a)) := by
  rw [ccell_arr (c := 0) hc]
  unfold carr
  rw [if_neg (by decide), if_neg (by decide), if_neg (by decide)]
theorem ccell101 {dA : Nat → ClassId} {ad : Nat → Nat} {h : CH} {a : Nat} (hc : (hT h a).1 = 101) : ccell dA ad h a = .inl (dA 1, (hT h a).2, .inr (.inl (hJ h a))) := by
  rw [ccell_arr (c := 1) hc]
  unfold carr
  rw [if_pos (by decide)]
theorem ccell102 {dA : Nat → ClassId} {ad : Nat → Nat} {h : CH} {a : Nat} (hc : (hT h a).1 = 102) : ccell dA ad h a = .inl (dA 2, (hT h a).2, .inl (hI h a)) := by
  rw [ccell_arr (c := 2) hc]
  unfold carr
  rw [if_neg (by decide), if_neg (by decide), if_neg (by decide)]
theorem ccell103 {dA : Nat → ClassId} {ad : Nat → Nat} {h : CH} {a : Nat} (hc : (hT h a).1 = 103) : ccell dA ad h a = .inl (dA 3, (hT h a).2, .inr (.inr (.inr (.inl (hD h a))))) := by
  rw [ccell_arr (c := 3) hc]
  unfold carr
  rw [if_neg (by decide), if_pos (by decide)]
theorem ccellR {dA : Nat → ClassId} {ad : Nat → Nat} {h : CH} {a c : Nat} (h4 : 4 ≤ c) (hc : (hT h a).1 = 100 + c) : ccell dA ad h a = .inl (dA c, (hT h a).2, .inr (.inr (.inr (.inr (fun j => ro ad (hR h a j)))))) := by
  rw [ccell_arr hc]
  unfold carr
  rw [if_neg (by omega), if_neg (by omega), if_pos (by omega)]
