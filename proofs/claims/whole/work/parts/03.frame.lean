/-! ===== THE ABSTRACT MEMORY: ints, floats, references by (key, cell), the cells' shapes (tag, length), how many cells, how many slots were made ===== -/
abbrev Mem : Type := (Nat → Nat → Int32) × (Nat → Nat → UInt32) × (Nat → Nat → Option Nat) × (Nat → Nat × Nat) × Nat × Nat
def mI (M : Mem) (k a : Nat) : Int32 := M.1 k a
def mF (M : Mem) (k a : Nat) : UInt32 := M.2.1 k a
def mP (M : Mem) (k a : Nat) : Option Nat := M.2.2.1 k a
def mS (M : Mem) (a : Nat) : Nat × Nat := M.2.2.2.1 a
def mN (M : Mem) : Nat := M.2.2.2.2.1
def mL (M : Mem) : Nat := M.2.2.2.2.2
def uI (M : Mem) (k a : Nat) (x : Int32) : Mem := (fun k' a' => if k' = k ∧ a' = a then x else M.1 k' a', M.2)
def uF (M : Mem) (k a : Nat) (x : UInt32) : Mem := (M.1, fun k' a' => if k' = k ∧ a' = a then x else M.2.1 k' a', M.2.2)
def uP (M : Mem) (k a : Nat) (x : Option Nat) : Mem := (M.1, M.2.1, fun k' a' => if k' = k ∧ a' = a then x else M.2.2.1 k' a', M.2.2.2)
/-- a new cell of a shape, of so many slots, all at their defaults -/
def nw (M : Mem) (sh : Nat × Nat) (sl : Nat) : Mem :=
  (fun k a => if a = M.2.2.2.2.1 then 0 else M.1 k a, fun k a => if a = M.2.2.2.2.1 then 0 else M.2.1 k a, fun k a => if a = M.2.2.2.2.1 then none else M.2.2.1 k a, fun a => if a = M.2.2.2.2.1 then sh else M.2.2.2.1 a, M.2.2.2.2.1 + 1, M.2.2.2.2.2 + sl)
/-! ===== a run's fixed names: the tables' numbers, the first new cell, the String constants' cells and their rows, the array classes, the heap at the law's start ===== -/
abbrev Cfg : Type := va_G × Nat × (Nat → Nat) × (Nat → Nat) × (Nat → ClassId) × Heap × Nat × (Nat → Int32)
def kD (κ : Cfg) : va_G := κ.1
def kB (κ : Cfg) : Nat := κ.2.1
def kS (κ : Cfg) : Nat → Nat := κ.2.2.1
def kV (κ : Cfg) : Nat → Nat := κ.2.2.2.1
def kA (κ : Cfg) : Nat → ClassId := κ.2.2.2.2.1
def kH (κ : Cfg) : Heap := κ.2.2.2.2.2.1
/-- the law's script: its length, its ints; its cell is kS 5 -/
def kL (κ : Cfg) : Nat := κ.2.2.2.2.2.2.1
def kX (κ : Cfg) : Nat → Int32 := κ.2.2.2.2.2.2.2
def kad (κ : Cfg) (i : Nat) : Nat := if i < 1000000 then kB κ + i else kS κ (i - 1000000)
def rv (κ : Cfg) (o : Option Nat) : Value := va_rf (o.map (kad κ))
/-- the kinds of a class's fields: 0 int, 1 float, 2 reference -/
def kd : Nat → List Nat
  | 0 => [0, 0, 0, 0]
  | 1 => [2, 2, 2, 2, 2, 0, 0, 0]
  | 2 => [2, 0, 0]
  | 3 => [0, 0, 0, 0, 1]
  | 4 => [2, 0, 0, 0, 0, 0]
  | 5 => [2, 0, 0, 0, 0, 0]
  | 6 => [2, 2, 2, 0, 0, 0, 0, 0, 0]
  | 7 => [2, 2, 0]
  | 8 => [2, 0, 0, 0, 0, 0, 0, 0, 0]
  | 9 => [0, 0, 0]
  | 10 => [2, 2, 0, 2, 2]
  | 11 => [2, 2, 2, 2, 0, 2, 0, 2, 0, 0, 0, 0, 0, 0, 0, 0, 0, 0, 2, 2, 0]
  | _ => []
def fv (κ : Cfg) (M : Mem) (t k a : Nat) : Value := if t = 0 then .int (mI M k a) else if t = 1 then .float (mF M k a) else rv κ (mP M k a)
def fls (κ : Cfg) (M : Mem) (ci a : Nat) : List Value := (List.range (kd ci).length).map (fun j => fv κ M ((kd ci).getD j 0) (32 * ci + j) a)
def enc (κ : Cfg) (M : Mem) (a : Nat) : va_E :=
  if (mS M a).1 < 100 then .inr ((mS M a).1, fls κ M (mS M a).1 a)
  else if (mS M a).1 < 102 then .inl (kA κ (mS M a).1, (mS M a).2, .inl (fun i => mI M (1000 + i) a))
  else if (mS M a).1 < 110 then .inl (kA κ (mS M a).1, (mS M a).2, .inr (.inr (.inl (fun i => mF M (1000 + i) a))))
  else .inl (kA κ (mS M a).1, (mS M a).2, .inr (.inr (.inr (.inr (fun i => (mP M (1000 + i) a).map (kad κ))))))
/-- the machine's heap holds the memory, from the first new cell on, and what was there before -/
def HR (κ : Cfg) (M : Mem) (H : Heap) : Prop :=
  H.size = kB κ + mN M ∧ mN M ≤ 1000000 ∧ (∀ a, (mS M a).1 < 900 → a < mN M ∧ va_at (kD κ) vwCl (kB κ + a, enc κ M a) H) ∧ ∀ q, q < kB κ → H[q]? = (kH κ)[q]?
def tyOf (t : Nat) : FieldType := if t = 100 then .int else if t = 101 then .char else if t = 102 then .float else if t = 110 then .object RX0 else if t = 112 then .object RX2 else if t = 113 then .object RX3 else if t = 115 then .object RX5 else if t = 118 then .object RX8 else .object RX9
def tys (κ : Cfg) : List (ClassId × FieldType) := [(kA κ 100, .int), (kA κ 101, .char), (kA κ 102, .float), (kA κ 110, .object RX0), (kA κ 112, .object RX2), (kA κ 113, .object RX3), (kA κ 115, .object RX5), (kA κ 118, .object RX8), (kA κ 119, .object RX9)]
def lenJ : List Nat := [4, 3, 4, 4, 4]
def bytJ : List (List Int32) := [[102, 114, 101, 101], [99, 97, 112], [108, 111, 115, 116], [100, 97, 121, 115], [98, 97, 110, 100]]
/-- what is known of the String constants and of the statics that String's methods read -/
def SK (κ : Cfg) (U : State) : Prop :=
  vk_S 5 lenJ bytJ (kS κ) (fun i => kS κ (10 + i)) (fun q => kB κ ≤ q) U (kH κ) ∧ va_Z "java/lang/String" "COMPACT_STRINGS" "Z" (.int 1) (fun q => kB κ ≤ q) U (kH κ) ∧ (va_Z "jdk/internal/util/Preconditions" "SIOOBE_FORMATTER" "Ljava/util/function/BiFunction;" .null (fun q => kB κ ≤ q) U (kH κ) ∨ va_Z "jdk/internal/util/Preconditions" "SIOOBE_FORMATTER" "Ljava/util/function/BiFunction;" (.ref (kS κ 30)) (fun q => kB κ ≤ q) U (kH κ)) ∧
  vk_R RX6 57 "free" (kS κ 0) U ∧ vk_R RX6 70 "cap" (kS κ 1) U ∧ vk_R RX6 74 "lost" (kS κ 2) U ∧ vk_R RX6 79 "days" (kS κ 3) U ∧ vk_R RX6 84 "band" (kS κ 4) U ∧ va_X (kS κ 5) (kL κ) (kX κ) U (kH κ) ∧ kS κ 5 < kB κ
def nestL : List (String × Nat × MethodName) := [(RX1, 42, yX9_init), (RX1, 43, yX2_init), (RX1, 44, yX3_init), (RX1, 45, yX8_init), (RX10, 21, yX6_init), (RX10, 28, yX7_init), (RX1, 72, yX10_within), (RX6, 137, yX10_within), (RX5, 47, yX10_within), (RX2, 22, yX10_within), (RX8, 49, yX10_within), (RX3, 28, yX10_bitsOf), (RX7, 18, yX10_within)]
/-- what is known of the tables, at the start of every method -/
def NK (κ : Cfg) (U : State) : Prop :=
  va_K (kD κ) vwCl (tys κ) U ∧ (∀ q ∈ nestL, va_Nw (.methodLinkNest q.1 q.2.1 q.2.2 RX10) U) ∧ (∀ C ∈ [RX0, RX2, RX3, RX5, RX8, RX9], va_AO C U) ∧ SK κ U
/-- a method: its class, name, bytes, locals, answer, frames and locals' room below it -/
abbrev MD : Type := String × MethodName × ByteArray × Nat × Option FieldType × Nat × Nat
def mdO (y : MD) : String := y.1
def mdY (y : MD) : MethodName := y.2.1
def mdC (y : MD) : ByteArray := y.2.2.1
def mdL (y : MD) : Nat := y.2.2.2.1
def mdR (y : MD) : Option FieldType := y.2.2.2.2.1
def mdF (y : MD) : Nat := y.2.2.2.2.2.1
def mdK (y : MD) : Nat := y.2.2.2.2.2.2
def rIns : Option FieldType → Instr
  | none => .return_
  | some .float => .freturn
  | some (.object _) => .areturn
  | some (.array _) => .areturn
  | some _ => .ireturn
def wsOf (y : MD) : List Cond := Cond.code (mdY y) (mdC y) (mdL y) (mdR y) :: WS
def Ctx (κ : Cfg) (y : MD) (p : Program) (R : Room) (s : State) (m : MethodId) (args : Array Value) (meth : Method) (c : Code) : Prop :=
  p.tables.exec = Jvm.exec ∧ c.code = mdC y ∧ c.maxLocals = mdL y ∧ s.vm.findClass (mdO y) = some m.cls ∧ (∀ w ∈ WS, w.before args s = true) ∧ meth.sig.returnType = mdR y ∧ meth.locks = false ∧ ((mdY y).name = "<init>" → meth.name = "<init>") ∧ NK κ s ∧ (s.heap.size ≥ kB κ ∧ ∀ q, q < kB κ → s.heap[q]? = (kH κ)[q]?) ∧ mdF y ≤ R.frames ∧ mdK y ≤ R.locals
def LV (ls : Array Slot) (n : Nat) (lv : List (Nat × Value)) : Prop := lv_has ls n lv ∧ ∀ q ∈ lv, q.2.category = 1
def lvs (lv : List (Nat × Value)) (i : Nat) (v : Value) : List (Nat × Value) := (i, v) :: lv.filter (fun q => !(q.1 == i))
/-- THE JUDGEMENT: from pc, with these locals and this stack over this memory, the method's rest comes to what o says: if o is some (v, M'), it returns v and leaves M' -/
def G (κ : Cfg) (y : MD) {α : Type} (cv : α → Option Value) (o : Option (α × Mem)) (pc : Nat) (lv : List (Nat × Value)) (st : List Value) (M : Mem) : Prop :=
  ∀ r, o = some r → (mN M ≤ mN r.2 ∧ mL M ≤ mL r.2) ∧
    ∀ (p : Program) (l : Launch) (e : Env) (R : Room) (s : State) (m : MethodId) (args : Array Value) (below : List Frame) (meth : Method) (c : Code) (H : Heap) (locs : List Loc) (cells slots : Nat) (ls : Array Slot) (Q : State → Prop),
      Ctx κ y p R s m args meth c → HR κ M H → LV ls (mdL y) lv → (∀ q ∈ locs, kB κ ≤ q.base) → cells + (mN r.2 - mN M) ≤ R.cells → slots + (mL r.2 - mL M) ≤ R.slots →
      (∀ (H' : Heap) (locs' : List Loc) (ls' : Array Slot) (pc' : Nat), HR κ r.2 H' → (∀ q ∈ locs', kB κ ≤ q.base) → decode (mdC y) pc' = .ok (rIns (mdR y), 1) → (mdR y = some .boolean → cv r.1 = some (.int 0) ∨ cv r.1 = some (.int 1)) →
        W p l e R s m args below meth c H' locs' (cells + (mN r.2 - mN M)) (slots + (mL r.2 - mL M)) Q (F0 m pc' ls' (cv r.1).toList)) →
      W p l e R s m args below meth c H locs cells slots Q (F0 m pc ls st)
def PcK (κ : Cfg) (as : List Value) (M : Mem) : Array Value → State → Prop := va_Pc as (fun U => HR κ M U.heap ∧ NK κ U)
def QcK (κ : Cfg) (v : Option Value) (M : Mem) : Array Value → State → Outcome → State → Prop := fun _ _ oc t => oc = .returned v ∧ HR κ M t.heap
/-- a method's contract for these arguments over this memory -/
def Con (κ : Cfg) (y : MD) (as : List Value) (M : Mem) {α : Type} (cv : α → Option Value) (o : Option (α × Mem)) : Prop :=
  ∀ r, o = some r → (mN M ≤ mN r.2 ∧ mL M ≤ mL r.2) ∧
    ∀ l : Launch, Met l (mdY y) (wsOf y) { frames := mdF y, cells := mN r.2 - mN M, slots := mL r.2 - mL M, locals := mdK y } (PcK κ as M) (QcK κ (cv r.1) r.2) (mN r.2 - mN M) (mL r.2 - mL M) (fun q => kB κ ≤ q)
abbrev cvI : Int32 → Option Value := fun x => some (.int x)
abbrev cvF : UInt32 → Option Value := fun x => some (.float x)
abbrev cvQ (κ : Cfg) : Option Nat → Option Value := fun x => some (rv κ x)
abbrev cvV : Unit → Option Value := fun _ => none
/-! ===== small facts ===== -/
theorem rv_cat (κ : Cfg) (o : Option Nat) : (rv κ o).category = 1 := by cases o <;> rfl
theorem rv_none (κ : Cfg) : rv κ none = .null := rfl
theorem rv_some (κ : Cfg) (a : Nat) : rv κ (some a) = .ref (kad κ a) := rfl
theorem kad_lt {κ : Cfg} {a : Nat} (h : a < 1000000) : kad κ a = kB κ + a := if_pos h
theorem LV.store {ls : Array Slot} {n : Nat} {lv : List (Nat × Value)} {i : Nat} {v : Value} {ls' : Array Slot} (h : LV ls n lv) (hv : v.category = 1)
    (h' : lv_has ls' n ((i, v) :: lv.filter (fun q => !(q.1 == i) && !(q.1 + 1 == i && q.2.category == 2)))) : LV ls' n (lvs lv i v) := by
  have key : ∀ q ∈ lvs lv i v, q ∈ (i, v) :: lv.filter (fun q => !(q.1 == i) && !(q.1 + 1 == i && q.2.category == 2)) := by
    intro q hq
    rcases List.mem_cons.mp hq with rfl | hq
    · exact List.mem_cons_self
    · obtain ⟨h1, h2⟩ := List.mem_filter.mp hq
      refine List.mem_cons_of_mem _ (List.mem_filter.mpr ⟨h1, ?_⟩)
      simp only [h.2 q h1]
      simpa using h2
  refine ⟨⟨h'.1, h'.2.1, fun q hq => h'.2.2 q (key q hq)⟩, fun q hq => ?_⟩
  rcases List.mem_cons.mp hq with rfl | hq
  · exact hv
  · exact h.2 q (List.mem_filter.mp hq).1
theorem P1 {D : va_G} {cl : List vw_C} {q : Nat × va_E} {H : Heap} (h : va_at D cl q H) : va_P D cl [q] H := by
  intro k x hk
  have : k < 1 := (List.getElem?_eq_some_iff.mp hk).1
  have h0 : k = 0 := by omega
  subst h0
  cases hk
  exact h
theorem fls_get {κ : Cfg} {M : Mem} {ci a j t : Nat} (h : (kd ci)[j]? = some t) : (fls κ M ci a)[j]? = some (fv κ M t (32 * ci + j) a) := by
  have hj : j < (kd ci).length := (List.getElem?_eq_some_iff.mp h).1
  simp only [fls, List.getElem?_map, List.getElem?_range hj, Option.map_some, List.getD_eq_getElem?_getD, h, Option.getD_some]
theorem fls_len (κ : Cfg) (M : Mem) (ci a : Nat) : (fls κ M ci a).length = (kd ci).length := by simp [fls]
theorem HR.lt {κ : Cfg} {M : Mem} {H : Heap} (h : HR κ M H) {a : Nat} (hs : (mS M a).1 < 900) : a < mN M ∧ kad κ a = kB κ + a := by
  have h1 := (h.2.2.1 a hs).1
  exact ⟨h1, kad_lt (by have := h.2.1; omega)⟩
theorem Ctx.vaS {κ : Cfg} {y : MD} {p : Program} {R : Room} {s : State} {m : MethodId} {args : Array Value} {meth : Method} {c : Code} {M : Mem} {H : Heap} {locs : List Loc} (X : Ctx κ y p R s m args meth c) (hH : HR κ M H) (hlo : ∀ q ∈ locs, kB κ ≤ q.base) (hz : s.heap.size ≤ H.size) : va_S (fun q => kB κ ≤ q) s.heap H locs :=
  ⟨hz, fun q h1 h2 => by
    have h3 : q < kB κ := Nat.not_le.mp h2
    rw [hH.2.2.2 q h3, X.2.2.2.2.2.2.2.2.2.1.2 q h3], hlo⟩
section RULES
variable {κ : Cfg} {y : MD} {α : Type} {cv : α → Option Value} {o o1 o2 : Option (α × Mem)} {pc : Nat} {lv lv' : List (Nat × Value)} {st : List Value} {M : Mem}
theorem G.none' : G κ y cv (none : Option (α × Mem)) pc lv st M := fun r h => by cases h
theorem G.step {o : Option (α × Mem)} {pc' : Nat} {st' : List Value} (k : G κ y cv o pc' lv' st' M)
    (h : ∀ (p : Program) (l : Launch) (e : Env) (R : Room) (s : State) (m : MethodId) (args : Array Value) (below : List Frame) (meth : Method) (c : Code) (H : Heap) (locs : List Loc) (cells slots : Nat) (ls : Array Slot) (Q : State → Prop),
      Ctx κ y p R s m args meth c → HR κ M H → LV ls (mdL y) lv → (∀ ls', LV ls' (mdL y) lv' → W p l e R s m args below meth c H locs cells slots Q (F0 m pc' ls' st')) → W p l e R s m args below meth c H locs cells slots Q (F0 m pc ls st)) : G κ y cv o pc lv st M := by
  intro r hr
  obtain ⟨h1, h2⟩ := k r hr
  refine ⟨h1, ?_⟩
  intro p l e R s m args below meth c H locs cells slots ls Q X hH hl hlo hc hs fin
  exact h p l e R s m args below meth c H locs cells slots ls Q X hH hl (fun ls' hl' => h2 p l e R s m args below meth c H locs cells slots ls' Q X hH hl' hlo hc hs fin)
theorem G.cond {c : Prop} [Decidable c] (ht : c → G κ y cv o1 pc lv st M) (hf : ¬ c → G κ y cv o2 pc lv st M) : G κ y cv (if c then o1 else o2) pc lv st M := by
  by_cases h : c
  · rw [if_pos h]; exact ht h
  · rw [if_neg h]; exact hf h
/-- branches: the condition's two ways -/
theorem G.fork {c : Prop} [Decidable c] {pc1 pc2 : Nat} {st' : List Value} (kt : G κ y cv o1 pc1 lv st' M) (kf : G κ y cv o2 pc2 lv st' M)
    (h : ∀ (p : Program) (l : Launch) (e : Env) (R : Room) (s : State) (m : MethodId) (args : Array Value) (below : List Frame) (meth : Method) (cc : Code) (H : Heap) (locs : List Loc) (cells slots : Nat) (ls : Array Slot) (Q : State → Prop),
      Ctx κ y p R s m args meth cc → (c → W p l e R s m args below meth cc H locs cells slots Q (F0 m pc1 ls st')) → (¬ c → W p l e R s m args below meth cc H locs cells slots Q (F0 m pc2 ls st')) → W p l e R s m args below meth cc H locs cells slots Q (F0 m pc ls st)) : G κ y cv (if c then o1 else o2) pc lv st M := by
  refine G.cond (fun hc => ?_) (fun hc => ?_)
  · refine G.step kt ?_
    intro p l e R s m args below meth cc H locs cells slots ls Q X hH hl k
    exact h p l e R s m args below meth cc H locs cells slots ls Q X (fun _ => k ls hl) (fun h9 => absurd hc h9)
  · refine G.step kf ?_
    intro p l e R s m args below meth cc H locs cells slots ls Q X hH hl k
    exact h p l e R s m args below meth cc H locs cells slots ls Q X (fun h9 => absurd h9 hc) (fun _ => k ls hl)
theorem G_iadd {x z : Int32} (hd : decode (mdC y) pc = .ok (.iadd, 1)) (k : G κ y cv o (pc + 1) lv (.int (x + z) :: st) M) : G κ y cv o pc lv (.int z :: .int x :: st) M :=
  G.step k fun p l e R s m args below meth c H locs cells slots ls Q X hH hl kk => lv_iadd X.1 X.2.1 hd (kk ls hl)
theorem G_isub {x z : Int32} (hd : decode (mdC y) pc = .ok (.isub, 1)) (k : G κ y cv o (pc + 1) lv (.int (x - z) :: st) M) : G κ y cv o pc lv (.int z :: .int x :: st) M :=
  G.step k fun p l e R s m args below meth c H locs cells slots ls Q X hH hl kk => lv_isub X.1 X.2.1 hd (kk ls hl)
theorem G_imul {x z : Int32} (hd : decode (mdC y) pc = .ok (.imul, 1)) (k : G κ y cv o (pc + 1) lv (.int (x * z) :: st) M) : G κ y cv o pc lv (.int z :: .int x :: st) M :=
  G.step k fun p l e R s m args below meth c H locs cells slots ls Q X hH hl kk => lv_imul X.1 X.2.1 hd (kk ls hl)
theorem G_iand {x z : Int32} (hd : decode (mdC y) pc = .ok (.iand, 1)) (k : G κ y cv o (pc + 1) lv (.int (x &&& z) :: st) M) : G κ y cv o pc lv (.int z :: .int x :: st) M :=
  G.step k fun p l e R s m args below meth c H locs cells slots ls Q X hH hl kk => lv_iand X.1 X.2.1 hd (kk ls hl)
theorem G_ishl {x z : Int32} (hd : decode (mdC y) pc = .ok (.ishl, 1)) (k : G κ y cv o (pc + 1) lv (.int (x <<< (z &&& 31)) :: st) M) : G κ y cv o pc lv (.int z :: .int x :: st) M :=
  G.step k fun p l e R s m args below meth c H locs cells slots ls Q X hH hl kk => lv_ishl X.1 X.2.1 hd (kk ls hl)
theorem G_ishr {x z : Int32} (hd : decode (mdC y) pc = .ok (.ishr, 1)) (k : G κ y cv o (pc + 1) lv (.int (x >>> (z &&& 31)) :: st) M) : G κ y cv o pc lv (.int z :: .int x :: st) M :=
  G.step k fun p l e R s m args below meth c H locs cells slots ls Q X hH hl kk => lv_ishr X.1 X.2.1 hd (kk ls hl)
theorem G_idiv {x z : Int32} (hd : decode (mdC y) pc = .ok (.idiv, 1)) (hz : ¬ z = 0) (k : G κ y cv o (pc + 1) lv (.int (x / z) :: st) M) : G κ y cv o pc lv (.int z :: .int x :: st) M :=
  G.step k fun p l e R s m args below meth c H locs cells slots ls Q X hH hl kk => lv_idiv X.1 X.2.1 hd hz (kk ls hl)
theorem G_irem {x z : Int32} (hd : decode (mdC y) pc = .ok (.irem, 1)) (hz : ¬ z = 0) (k : G κ y cv o (pc + 1) lv (.int (x - x / z * z) :: st) M) : G κ y cv o pc lv (.int z :: .int x :: st) M :=
  G.step k fun p l e R s m args below meth c H locs cells slots ls Q X hH hl kk => lv_irem X.1 X.2.1 hd hz (kk ls hl)
theorem G_i2c {x : Int32} (hd : decode (mdC y) pc = .ok (.i2c, 1)) (k : G κ y cv o (pc + 1) lv (.int ((x.toUInt32 % 65536).toInt32) :: st) M) : G κ y cv o pc lv (.int x :: st) M :=
  G.step k fun p l e R s m args below meth c H locs cells slots ls Q X hH hl kk => lv_i2c X.1 X.2.1 hd rfl (kk ls hl)
theorem G_i2f {x : Int32} (hd : decode (mdC y) pc = .ok (.i2f, 1)) (k : G κ y cv o (pc + 1) lv (.float (FP.i2f x) :: st) M) : G κ y cv o pc lv (.int x :: st) M :=
  G.step k fun p l e R s m args below meth c H locs cells slots ls Q X hH hl kk => lv_i2f X.1 X.2.1 hd (kk ls hl)
theorem G_f2i {x : UInt32} (hd : decode (mdC y) pc = .ok (.f2i, 1)) (k : G κ y cv o (pc + 1) lv (.int (FP.f2i x) :: st) M) : G κ y cv o pc lv (.float x :: st) M :=
  G.step k fun p l e R s m args below meth c H locs cells slots ls Q X hH hl kk => lv_f2i X.1 X.2.1 hd (kk ls hl)
theorem G_fcmp {x z : UInt32} {op : CmpOp} (hd : decode (mdC y) pc = .ok (.fcmp op, 1)) (k : G κ y cv o (pc + 1) lv (.int (Op.cmpValue (FP.fcmp x z) op) :: st) M) : G κ y cv o pc lv (.float z :: .float x :: st) M :=
  G.step k fun p l e R s m args below meth c H locs cells slots ls Q X hH hl kk => lv_fcmp X.1 X.2.1 hd (kk ls hl)
theorem G_fconst0 (hd : decode (mdC y) pc = .ok (.fconst 0, 1)) (k : G κ y cv o (pc + 1) lv (.float FP.fconst0 :: st) M) : G κ y cv o pc lv (st) M :=
  G.step k fun p l e R s m args below meth c H locs cells slots ls Q X hH hl kk => lv_fconst0 X.1 X.2.1 hd (kk ls hl)
theorem G_fconst1 (hd : decode (mdC y) pc = .ok (.fconst 1, 1)) (k : G κ y cv o (pc + 1) lv (.float FP.fconst1 :: st) M) : G κ y cv o pc lv (st) M :=
  G.step k fun p l e R s m args below meth c H locs cells slots ls Q X hH hl kk => lv_fconst1 X.1 X.2.1 hd (kk ls hl)
theorem G_fconst2 (hd : decode (mdC y) pc = .ok (.fconst 2, 1)) (k : G κ y cv o (pc + 1) lv (.float FP.fconst2 :: st) M) : G κ y cv o pc lv (st) M :=
  G.step k fun p l e R s m args below meth c H locs cells slots ls Q X hH hl kk => lv_fconst2 X.1 X.2.1 hd (kk ls hl)
theorem G_iconst {n : Int} {v : Int32} (hd : decode (mdC y) pc = .ok (.iconst n, 1)) (hv : Int32.ofInt n = v) (k : G κ y cv o (pc + 1) lv (.int v :: st) M) : G κ y cv o pc lv (st) M :=
  G.step k fun p l e R s m args below meth c H locs cells slots ls Q X hH hl kk => lv_iconst X.1 X.2.1 hd hv (kk ls hl)
theorem G_bipush {n : Int} {v : Int32} (hd : decode (mdC y) pc = .ok (.bipush n, 2)) (hv : (Int8.ofInt n).toInt32 = v) (k : G κ y cv o (pc + 2) lv (.int v :: st) M) : G κ y cv o pc lv (st) M :=
  G.step k fun p l e R s m args below meth c H locs cells slots ls Q X hH hl kk => lv_bipush X.1 X.2.1 hd hv (kk ls hl)
theorem G_sipush {n : Int} {v : Int32} (hd : decode (mdC y) pc = .ok (.sipush n, 3)) (hv : (Int16.ofInt n).toInt32 = v) (k : G κ y cv o (pc + 3) lv (.int v :: st) M) : G κ y cv o pc lv (st) M :=
  G.step k fun p l e R s m args below meth c H locs cells slots ls Q X hH hl kk => lv_sipush X.1 X.2.1 hd hv (kk ls hl)
theorem G_null (hd : decode (mdC y) pc = .ok (.aconst_null, 1)) (k : G κ y cv o (pc + 1) lv (rv κ none :: st) M) : G κ y cv o pc lv (st) M :=
  G.step k fun p l e R s m args below meth c H locs cells slots ls Q X hH hl kk => lv_null X.1 X.2.1 hd (kk ls hl)
theorem G_dup {v : Value} (hd : decode (mdC y) pc = .ok (.dup, 1)) (hv : v.category = 1) (k : G κ y cv o (pc + 1) lv (v :: v :: st) M) : G κ y cv o pc lv (v :: st) M :=
  G.step k fun p l e R s m args below meth c H locs cells slots ls Q X hH hl kk => lv_dup X.1 X.2.1 hd hv (kk ls hl)
theorem G_pop {v : Value} (hd : decode (mdC y) pc = .ok (.pop, 1)) (hv : v.category = 1) (k : G κ y cv o (pc + 1) lv (st) M) : G κ y cv o pc lv (v :: st) M :=
  G.step k fun p l e R s m args below meth c H locs cells slots ls Q X hH hl kk => lv_pop X.1 X.2.1 hd hv (kk ls hl)
theorem G_dup2 {v w : Value} (hd : decode (mdC y) pc = .ok (.dup2, 1)) (hv : v.category = 1) (hw : w.category = 1) (k : G κ y cv o (pc + 1) lv (v :: w :: v :: w :: st) M) : G κ y cv o pc lv (v :: w :: st) M :=
  G.step k fun p l e R s m args below meth c H locs cells slots ls Q X hH hl kk => lv_dup2_11 X.1 X.2.1 hd hv hw (kk ls hl)
theorem G_ldc {n : Nat} {v : Int32} (hd : decode (mdC y) pc = .ok (.ldc n, 2)) (hw : Jvm.Cond.constant (mdO y) n v ∈ WS) (k : G κ y cv o (pc + 2) lv (.int v :: st) M) : G κ y cv o pc lv (st) M :=
  G.step k fun p l e R s m args below meth c H locs cells slots ls Q X hH hl kk => lv_ldc X.1 X.2.1 X.2.2.2.1 (X.2.2.2.2.1 _ hw) hd (kk ls hl)
theorem G_ldcw {n : Nat} {v : Int32} (hd : decode (mdC y) pc = .ok (.ldc_w n, 3)) (hw : Jvm.Cond.constant (mdO y) n v ∈ WS) (k : G κ y cv o (pc + 3) lv (.int v :: st) M) : G κ y cv o pc lv (st) M :=
  G.step k fun p l e R s m args below meth c H locs cells slots ls Q X hH hl kk => lv_ldcw X.1 X.2.1 X.2.2.2.1 (X.2.2.2.2.1 _ hw) hd (kk ls hl)
theorem G_ldcf {n : Nat} {v : UInt32} (hd : decode (mdC y) pc = .ok (.ldc n, 2)) (hw : Jvm.Cond.constantFloat (mdO y) n v ∈ WS) (k : G κ y cv o (pc + 2) lv (.float v :: st) M) : G κ y cv o pc lv (st) M :=
  G.step k fun p l e R s m args below meth c H locs cells slots ls Q X hH hl kk => lv_ldcf X.1 X.2.1 X.2.2.2.1 (X.2.2.2.2.1 _ hw) hd (kk ls hl)
theorem G_iload_n {q : Fin 4} {i : Nat} {x : Int32} (hd : decode (mdC y) pc = .ok (.iload_n q, 1)) (j : Nat) (hi : (q : Nat) = i) (hk : lv[j]? = some (i, .int x)) (k : G κ y cv o (pc + 1) lv (.int x :: st) M) : G κ y cv o pc lv st M :=
  G.step k fun p l e R s m args below meth c H locs cells slots ls Q X hH hl kk => lv_iload_n X.1 X.2.1 hd hi (lv_at hl.1 j hk) (kk ls hl)
theorem G_iload {i : Nat} {x : Int32} (hd : decode (mdC y) pc = .ok (.iload i, 2)) (j : Nat) (hk : lv[j]? = some (i, .int x)) (k : G κ y cv o (pc + 2) lv (.int x :: st) M) : G κ y cv o pc lv st M :=
  G.step k fun p l e R s m args below meth c H locs cells slots ls Q X hH hl kk => lv_iload X.1 X.2.1 hd (lv_at hl.1 j hk) (kk ls hl)
theorem G_istore_n {q : Fin 4} {i : Nat} {x : Int32} (hd : decode (mdC y) pc = .ok (.istore_n q, 1)) (hi : (q : Nat) = i) (hn : i < mdL y) (hl2 : lvs lv i (.int x) = lv') (k : G κ y cv o (pc + 1) lv' st M) : G κ y cv o pc lv (.int x :: st) M :=
  G.step k fun p l e R s m args below meth c H locs cells slots ls Q X hH hl kk => lv_istore_n X.1 X.2.1 hd hi hl.1 hn rfl (fun ls' h9 => kk ls' (hl2 ▸ LV.store hl rfl h9))
theorem G_istore {i : Nat} {x : Int32} (hd : decode (mdC y) pc = .ok (.istore i, 2)) (hn : i < mdL y) (hl2 : lvs lv i (.int x) = lv') (k : G κ y cv o (pc + 2) lv' st M) : G κ y cv o pc lv (.int x :: st) M :=
  G.step k fun p l e R s m args below meth c H locs cells slots ls Q X hH hl kk => lv_istore X.1 X.2.1 hd hl.1 hn rfl (fun ls' h9 => kk ls' (hl2 ▸ LV.store hl rfl h9))
theorem G_fload_n {q : Fin 4} {i : Nat} {x : UInt32} (hd : decode (mdC y) pc = .ok (.fload_n q, 1)) (j : Nat) (hi : (q : Nat) = i) (hk : lv[j]? = some (i, .float x)) (k : G κ y cv o (pc + 1) lv (.float x :: st) M) : G κ y cv o pc lv st M :=
  G.step k fun p l e R s m args below meth c H locs cells slots ls Q X hH hl kk => lv_fload_n X.1 X.2.1 hd hi (lv_at hl.1 j hk) (kk ls hl)
theorem G_fload {i : Nat} {x : UInt32} (hd : decode (mdC y) pc = .ok (.fload i, 2)) (j : Nat) (hk : lv[j]? = some (i, .float x)) (k : G κ y cv o (pc + 2) lv (.float x :: st) M) : G κ y cv o pc lv st M :=
  G.step k fun p l e R s m args below meth c H locs cells slots ls Q X hH hl kk => lv_fload X.1 X.2.1 hd (lv_at hl.1 j hk) (kk ls hl)
theorem G_fstore_n {q : Fin 4} {i : Nat} {x : UInt32} (hd : decode (mdC y) pc = .ok (.fstore_n q, 1)) (hi : (q : Nat) = i) (hn : i < mdL y) (hl2 : lvs lv i (.float x) = lv') (k : G κ y cv o (pc + 1) lv' st M) : G κ y cv o pc lv (.float x :: st) M :=
  G.step k fun p l e R s m args below meth c H locs cells slots ls Q X hH hl kk => lv_fstore_n X.1 X.2.1 hd hi hl.1 hn rfl (fun ls' h9 => kk ls' (hl2 ▸ LV.store hl rfl h9))
theorem G_fstore {i : Nat} {x : UInt32} (hd : decode (mdC y) pc = .ok (.fstore i, 2)) (hn : i < mdL y) (hl2 : lvs lv i (.float x) = lv') (k : G κ y cv o (pc + 2) lv' st M) : G κ y cv o pc lv (.float x :: st) M :=
  G.step k fun p l e R s m args below meth c H locs cells slots ls Q X hH hl kk => lv_fstore X.1 X.2.1 hd hl.1 hn rfl (fun ls' h9 => kk ls' (hl2 ▸ LV.store hl rfl h9))
theorem G_aload_n {q : Fin 4} {i : Nat} {x : Option Nat} (hd : decode (mdC y) pc = .ok (.aload_n q, 1)) (j : Nat) (hi : (q : Nat) = i) (hk : lv[j]? = some (i, rv κ x)) (k : G κ y cv o (pc + 1) lv (rv κ x :: st) M) : G κ y cv o pc lv st M := by
  cases x with
  | none => exact G.step k fun p l e R s m args below meth c H locs cells slots ls Q X hH hl kk => lv_aload_nN X.1 X.2.1 hd hi (lv_at hl.1 j hk) (kk ls hl)
  | some a => exact G.step k fun p l e R s m args below meth c H locs cells slots ls Q X hH hl kk => lv_aload_n X.1 X.2.1 hd hi (lv_at hl.1 j hk) (kk ls hl)
theorem G_aload {i : Nat} {x : Option Nat} (hd : decode (mdC y) pc = .ok (.aload i, 2)) (j : Nat) (hk : lv[j]? = some (i, rv κ x)) (k : G κ y cv o (pc + 2) lv (rv κ x :: st) M) : G κ y cv o pc lv st M := by
  cases x with
  | none => exact G.step k fun p l e R s m args below meth c H locs cells slots ls Q X hH hl kk => lv_aloadN X.1 X.2.1 hd (lv_at hl.1 j hk) (kk ls hl)
  | some a => exact G.step k fun p l e R s m args below meth c H locs cells slots ls Q X hH hl kk => lv_aload X.1 X.2.1 hd (lv_at hl.1 j hk) (kk ls hl)
theorem G_astore_n {q : Fin 4} {i : Nat} {x : Option Nat} (hd : decode (mdC y) pc = .ok (.astore_n q, 1)) (hi : (q : Nat) = i) (hn : i < mdL y) (hl2 : lvs lv i (rv κ x) = lv') (k : G κ y cv o (pc + 1) lv' st M) : G κ y cv o pc lv (rv κ x :: st) M := by
  cases x with
  | none => exact G.step k fun p l e R s m args below meth c H locs cells slots ls Q X hH hl kk => lv_astore_nN X.1 X.2.1 hd hi hl.1 hn rfl (fun ls' h9 => kk ls' (hl2 ▸ LV.store hl rfl h9))
  | some a => exact G.step k fun p l e R s m args below meth c H locs cells slots ls Q X hH hl kk => lv_astore_n X.1 X.2.1 hd hi hl.1 hn rfl (fun ls' h9 => kk ls' (hl2 ▸ LV.store hl rfl h9))
theorem G_astore {i : Nat} {x : Option Nat} (hd : decode (mdC y) pc = .ok (.astore i, 2)) (hn : i < mdL y) (hl2 : lvs lv i (rv κ x) = lv') (k : G κ y cv o (pc + 2) lv' st M) : G κ y cv o pc lv (rv κ x :: st) M := by
  cases x with
  | none => exact G.step k fun p l e R s m args below meth c H locs cells slots ls Q X hH hl kk => lv_astoreN X.1 X.2.1 hd hl.1 hn rfl (fun ls' h9 => kk ls' (hl2 ▸ LV.store hl rfl h9))
  | some a => exact G.step k fun p l e R s m args below meth c H locs cells slots ls Q X hH hl kk => lv_astore X.1 X.2.1 hd hl.1 hn rfl (fun ls' h9 => kk ls' (hl2 ▸ LV.store hl rfl h9))
theorem G_iinc {i : Nat} {n : Int} {x v : Int32} (hd : decode (mdC y) pc = .ok (.iinc i n, 3)) (j : Nat) (hk : lv[j]? = some (i, .int x)) (hv : x + Int32.ofInt n = v) (hn : i < mdL y) (hl2 : lvs lv i (.int v) = lv') (k : G κ y cv o (pc + 3) lv' st M) : G κ y cv o pc lv st M :=
  G.step k fun p l e R s m args below meth c H locs cells slots ls Q X hH hl kk => lv_iinc X.1 X.2.1 hd hl.1 hk hv hn rfl (fun ls' h9 => kk ls' (hl2 ▸ LV.store hl rfl h9))
theorem G_goto {off : Int} {tgt : Nat} (hd : decode (mdC y) pc = .ok (.goto off, 3)) (ht : (pc : Int) + off = (tgt : Int)) (k : G κ y cv o tgt lv st M) : G κ y cv o pc lv st M :=
  G.step k fun p l e R s m args below meth c H locs cells slots ls Q X hH hl kk => lv_goto X.1 X.2.1 hd ht (kk ls hl)
theorem G_if_eq {x : Int32} {off : Int} {tgt : Nat} (hd : decode (mdC y) pc = .ok (.ifCond .eq off, 3)) (ht : (pc : Int) + off = (tgt : Int)) (kt : G κ y cv o1 tgt lv st M) (kf : G κ y cv o2 (pc + 3) lv st M) : G κ y cv (if x = 0 then o1 else o2) pc lv (.int x :: st) M :=
  G.fork kt kf fun p l e R s m args below meth c H locs cells slots ls Q X a b => lv_if_eq X.1 X.2.1 hd ht (fun h => a h) (fun h => b h)
theorem G_if_ne {x : Int32} {off : Int} {tgt : Nat} (hd : decode (mdC y) pc = .ok (.ifCond .ne off, 3)) (ht : (pc : Int) + off = (tgt : Int)) (kt : G κ y cv o1 tgt lv st M) (kf : G κ y cv o2 (pc + 3) lv st M) : G κ y cv (if x ≠ 0 then o1 else o2) pc lv (.int x :: st) M :=
  G.fork kt kf fun p l e R s m args below meth c H locs cells slots ls Q X a b => lv_if_ne X.1 X.2.1 hd ht (fun h => a h) (fun h => b (fun h9 => h9 h))
theorem G_if_lt {x : Int32} {off : Int} {tgt : Nat} (hd : decode (mdC y) pc = .ok (.ifCond .lt off, 3)) (ht : (pc : Int) + off = (tgt : Int)) (kt : G κ y cv o1 tgt lv st M) (kf : G κ y cv o2 (pc + 3) lv st M) : G κ y cv (if x < 0 then o1 else o2) pc lv (.int x :: st) M :=
  G.fork kt kf fun p l e R s m args below meth c H locs cells slots ls Q X a b => lv_if_lt X.1 X.2.1 hd ht (fun h => a h) (fun h => b h)
theorem G_if_ge {x : Int32} {off : Int} {tgt : Nat} (hd : decode (mdC y) pc = .ok (.ifCond .ge off, 3)) (ht : (pc : Int) + off = (tgt : Int)) (kt : G κ y cv o1 tgt lv st M) (kf : G κ y cv o2 (pc + 3) lv st M) : G κ y cv (if 0 ≤ x then o1 else o2) pc lv (.int x :: st) M :=
  G.fork kt kf fun p l e R s m args below meth c H locs cells slots ls Q X a b => lv_if_ge X.1 X.2.1 hd ht (fun h => a h) (fun h => b h)
theorem G_if_gt {x : Int32} {off : Int} {tgt : Nat} (hd : decode (mdC y) pc = .ok (.ifCond .gt off, 3)) (ht : (pc : Int) + off = (tgt : Int)) (kt : G κ y cv o1 tgt lv st M) (kf : G κ y cv o2 (pc + 3) lv st M) : G κ y cv (if 0 < x then o1 else o2) pc lv (.int x :: st) M :=
  G.fork kt kf fun p l e R s m args below meth c H locs cells slots ls Q X a b => lv_if_gt X.1 X.2.1 hd ht (fun h => a h) (fun h => b h)
theorem G_if_le {x : Int32} {off : Int} {tgt : Nat} (hd : decode (mdC y) pc = .ok (.ifCond .le off, 3)) (ht : (pc : Int) + off = (tgt : Int)) (kt : G κ y cv o1 tgt lv st M) (kf : G κ y cv o2 (pc + 3) lv st M) : G κ y cv (if x ≤ 0 then o1 else o2) pc lv (.int x :: st) M :=
  G.fork kt kf fun p l e R s m args below meth c H locs cells slots ls Q X a b => lv_if_le X.1 X.2.1 hd ht (fun h => a h) (fun h => b h)
theorem G_icmp_eq {x z : Int32} {off : Int} {tgt : Nat} (hd : decode (mdC y) pc = .ok (.if_icmp .eq off, 3)) (ht : (pc : Int) + off = (tgt : Int)) (kt : G κ y cv o1 tgt lv st M) (kf : G κ y cv o2 (pc + 3) lv st M) : G κ y cv (if x = z then o1 else o2) pc lv (.int z :: .int x :: st) M :=
  G.fork kt kf fun p l e R s m args below meth c H locs cells slots ls Q X a b => lv_icmp_eq X.1 X.2.1 hd ht (fun h => a h) (fun h => b h)
theorem G_icmp_ne {x z : Int32} {off : Int} {tgt : Nat} (hd : decode (mdC y) pc = .ok (.if_icmp .ne off, 3)) (ht : (pc : Int) + off = (tgt : Int)) (kt : G κ y cv o1 tgt lv st M) (kf : G κ y cv o2 (pc + 3) lv st M) : G κ y cv (if x ≠ z then o1 else o2) pc lv (.int z :: .int x :: st) M :=
  G.fork kt kf fun p l e R s m args below meth c H locs cells slots ls Q X a b => lv_icmp_ne X.1 X.2.1 hd ht (fun h => a h) (fun h => b (fun h9 => h9 h))
theorem G_icmp_lt {x z : Int32} {off : Int} {tgt : Nat} (hd : decode (mdC y) pc = .ok (.if_icmp .lt off, 3)) (ht : (pc : Int) + off = (tgt : Int)) (kt : G κ y cv o1 tgt lv st M) (kf : G κ y cv o2 (pc + 3) lv st M) : G κ y cv (if x < z then o1 else o2) pc lv (.int z :: .int x :: st) M :=
  G.fork kt kf fun p l e R s m args below meth c H locs cells slots ls Q X a b => lv_icmp_lt X.1 X.2.1 hd ht (fun h => a h) (fun h => b h)
theorem G_icmp_ge {x z : Int32} {off : Int} {tgt : Nat} (hd : decode (mdC y) pc = .ok (.if_icmp .ge off, 3)) (ht : (pc : Int) + off = (tgt : Int)) (kt : G κ y cv o1 tgt lv st M) (kf : G κ y cv o2 (pc + 3) lv st M) : G κ y cv (if z ≤ x then o1 else o2) pc lv (.int z :: .int x :: st) M :=
  G.fork kt kf fun p l e R s m args below meth c H locs cells slots ls Q X a b => lv_icmp_ge X.1 X.2.1 hd ht (fun h => a h) (fun h => b h)
theorem G_icmp_gt {x z : Int32} {off : Int} {tgt : Nat} (hd : decode (mdC y) pc = .ok (.if_icmp .gt off, 3)) (ht : (pc : Int) + off = (tgt : Int)) (kt : G κ y cv o1 tgt lv st M) (kf : G κ y cv o2 (pc + 3) lv st M) : G κ y cv (if z < x then o1 else o2) pc lv (.int z :: .int x :: st) M :=
  G.fork kt kf fun p l e R s m args below meth c H locs cells slots ls Q X a b => lv_icmp_gt X.1 X.2.1 hd ht (fun h => a h) (fun h => b h)
theorem G_icmp_le {x z : Int32} {off : Int} {tgt : Nat} (hd : decode (mdC y) pc = .ok (.if_icmp .le off, 3)) (ht : (pc : Int) + off = (tgt : Int)) (kt : G κ y cv o1 tgt lv st M) (kf : G κ y cv o2 (pc + 3) lv st M) : G κ y cv (if x ≤ z then o1 else o2) pc lv (.int z :: .int x :: st) M :=
  G.fork kt kf fun p l e R s m args below meth c H locs cells slots ls Q X a b => lv_icmp_le X.1 X.2.1 hd ht (fun h => a h) (fun h => b h)
theorem G_ifnull {x : Option Nat} {off : Int} {tgt : Nat} (hd : decode (mdC y) pc = .ok (.ifnull off, 3)) (ht : (pc : Int) + off = (tgt : Int)) (kt : G κ y cv o1 tgt lv st M) (kf : G κ y cv o2 (pc + 3) lv st M) : G κ y cv (if x = none then o1 else o2) pc lv (rv κ x :: st) M := by
  cases x with
  | none => exact G.fork kt kf fun p l e R s m args below meth c H locs cells slots ls Q X a b => lv_ifnullN X.1 X.2.1 hd ht (a rfl)
  | some q => exact G.fork kt kf fun p l e R s m args below meth c H locs cells slots ls Q X a b => lv_ifnull X.1 X.2.1 hd (b (fun h => by cases h))
theorem G_ifnonnull {x : Option Nat} {off : Int} {tgt : Nat} (hd : decode (mdC y) pc = .ok (.ifnonnull off, 3)) (ht : (pc : Int) + off = (tgt : Int)) (kt : G κ y cv o1 tgt lv st M) (kf : G κ y cv o2 (pc + 3) lv st M) : G κ y cv (if x ≠ none then o1 else o2) pc lv (rv κ x :: st) M := by
  cases x with
  | none => exact G.fork kt kf fun p l e R s m args below meth c H locs cells slots ls Q X a b => lv_ifnonnullN X.1 X.2.1 hd (b (fun h => h rfl))
  | some q => exact G.fork kt kf fun p l e R s m args below meth c H locs cells slots ls Q X a b => lv_ifnonnull X.1 X.2.1 hd ht (a (fun h => by cases h))
def o_fadd {β : Type} (x z : UInt32) (K : UInt32 → Option β) : Option β := if FP.fadd x z &&& 0x7fffffff ≤ 0x7f800000 then K (FP.fadd x z) else none
theorem G_fadd {x z : UInt32} {K : UInt32 → Option (α × Mem)} (hd : decode (mdC y) pc = .ok (.fadd, 1)) (k : ∀ r, G κ y cv (K r) (pc + 1) lv (.float r :: st) M) : G κ y cv (o_fadd x z K) pc lv (.float z :: .float x :: st) M := by
  unfold o_fadd
  refine G.cond (fun hc => G.step (k _) fun p l e R s m args below meth c H locs cells slots ls Q X hH hl kk => lv_fadd X.1 X.2.1 hd hc (kk ls hl)) (fun _ => G.none')
def o_fsub {β : Type} (x z : UInt32) (K : UInt32 → Option β) : Option β := if FP.fsub x z &&& 0x7fffffff ≤ 0x7f800000 then K (FP.fsub x z) else none
theorem G_fsub {x z : UInt32} {K : UInt32 → Option (α × Mem)} (hd : decode (mdC y) pc = .ok (.fsub, 1)) (k : ∀ r, G κ y cv (K r) (pc + 1) lv (.float r :: st) M) : G κ y cv (o_fsub x z K) pc lv (.float z :: .float x :: st) M := by
  unfold o_fsub
  refine G.cond (fun hc => G.step (k _) fun p l e R s m args below meth c H locs cells slots ls Q X hH hl kk => lv_fsub X.1 X.2.1 hd hc (kk ls hl)) (fun _ => G.none')
def o_fmul {β : Type} (x z : UInt32) (K : UInt32 → Option β) : Option β := if FP.fmul x z &&& 0x7fffffff ≤ 0x7f800000 then K (FP.fmul x z) else none
theorem G_fmul {x z : UInt32} {K : UInt32 → Option (α × Mem)} (hd : decode (mdC y) pc = .ok (.fmul, 1)) (k : ∀ r, G κ y cv (K r) (pc + 1) lv (.float r :: st) M) : G κ y cv (o_fmul x z K) pc lv (.float z :: .float x :: st) M := by
  unfold o_fmul
  refine G.cond (fun hc => G.step (k _) fun p l e R s m args below meth c H locs cells slots ls Q X hH hl kk => lv_fmul X.1 X.2.1 hd hc (kk ls hl)) (fun _ => G.none')
def o_fdiv {β : Type} (x z : UInt32) (K : UInt32 → Option β) : Option β := if FP.fdiv x z &&& 0x7fffffff ≤ 0x7f800000 then K (FP.fdiv x z) else none
theorem G_fdiv {x z : UInt32} {K : UInt32 → Option (α × Mem)} (hd : decode (mdC y) pc = .ok (.fdiv, 1)) (k : ∀ r, G κ y cv (K r) (pc + 1) lv (.float r :: st) M) : G κ y cv (o_fdiv x z K) pc lv (.float z :: .float x :: st) M := by
  unfold o_fdiv
  refine G.cond (fun hc => G.step (k _) fun p l e R s m args below meth c H locs cells slots ls Q X hH hl kk => lv_fdiv X.1 X.2.1 hd hc (kk ls hl)) (fun _ => G.none')
theorem G_tin {x : Int32} {n : Int} {dflt lo hi : Int} {offs : Array Int} {len tgt : Nat} {off : Int} (hd : decode (mdC y) pc = .ok (.tableswitch dflt lo hi offs, len)) (hx : x.toInt = n) (h1 : ¬ n < lo) (h2 : ¬ hi < n) (ho : offs[(n - lo).toNat]? = some off) (ht : (pc : Int) + off = (tgt : Int)) (k : G κ y cv o tgt lv st M) : G κ y cv o pc lv (.int x :: st) M := by
  subst hx
  exact G.step k fun p l e R s m args below meth c H locs cells slots ls Q X hH hl kk => lv_tableIn X.1 X.2.1 hd h1 h2 ho ht (kk ls hl)
theorem G_tout {x : Int32} {dflt lo hi : Int} {offs : Array Int} {len tgt : Nat} (hd : decode (mdC y) pc = .ok (.tableswitch dflt lo hi offs, len)) (hx : x.toInt < lo ∨ hi < x.toInt) (ht : (pc : Int) + dflt = (tgt : Int)) (k : G κ y cv o tgt lv st M) : G κ y cv o pc lv (.int x :: st) M :=
  G.step k fun p l e R s m args below meth c H locs cells slots ls Q X hH hl kk => lv_tableOut X.1 X.2.1 hd hx ht (kk ls hl)
theorem G_lks {x : Int32} {dflt : Int} {ps : Array (Int × Int)} {len tgt : Nat} {off : Int} (hd : decode (mdC y) pc = .ok (.lookupswitch dflt ps, len)) (hp : (ps.toList.zip (ps.toList.drop 1)).all (fun (a, next) => a.1 < next.1) = true) (ho : Op.lookupswitch.offset ps.toList dflt x.toInt = off) (ht : (pc : Int) + off = (tgt : Int)) (k : G κ y cv o tgt lv st M) : G κ y cv o pc lv (.int x :: st) M :=
  G.step k fun p l e R s m args below meth c H locs cells slots ls Q X hH hl kk => lv_lookup X.1 X.2.1 hd hp ho ht (kk ls hl)
end RULES
