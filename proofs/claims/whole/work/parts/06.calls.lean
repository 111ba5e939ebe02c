/-! ===== contracts out of walks, and calls by contracts ===== -/
theorem NK.warm {κ : Cfg} {s U : State} (hW : s.WarmedH U.vm) (h : NK κ s) : NK κ U :=
  ⟨va_K.moved hW.alike h.1, fun q hq => va_Nw.warmM hW (h.2.1 q hq), fun C hC => va_AO.moved hW.alike (h.2.2.1 C hC),
   vk_S.moved hW.alike h.2.2.2.1, va_Z.moved hW.alike h.2.2.2.2.1, h.2.2.2.2.2.1.imp (va_Z.moved hW.alike) (va_Z.moved hW.alike), vk_R.warm hW h.2.2.2.2.2.2.1, vk_R.warm hW h.2.2.2.2.2.2.2.1, vk_R.warm hW h.2.2.2.2.2.2.2.2.1, vk_R.warm hW h.2.2.2.2.2.2.2.2.2.1, vk_R.warm hW h.2.2.2.2.2.2.2.2.2.2.1, va_X.moved hW.alike h.2.2.2.2.2.2.2.2.2.2.2.1, h.2.2.2.2.2.2.2.2.2.2.2.2⟩
theorem PcK.blind {κ : Cfg} {as : List Value} {M : Mem} : FrameBlind (PcK κ as M) := fun a U g mk q =>
  ⟨q.1, q.2.1, NK.warm (s := U) (U := U.calling g mk a) (State.WarmedH.refl U) q.2.2⟩
def MOk (y : MD) (n : Nat) : Prop := plainFor (mdY y) = true ∧ Jvm.Cond.code (mdY y) (mdC y) (mdL y) (mdR y) ∈ WS ∧ Jvm.Cond.initialized (mdY y).cls ∈ WS ∧ ((mdY y).cls ≠ "java/lang/invoke/MethodHandle" ∧ (mdY y).cls ≠ "java/lang/invoke/VarHandle") ∧ (parseMethodDescriptor (mdY y).desc).map (fun d => d.parameters.length) = some n ∧ mdO y = (mdY y).cls
def RetOk (κ : Cfg) (y : MD) {α : Type} (cv : α → Option Value) : Prop :=
  ∀ (a : α) (p : Program) (l : Launch) (e : Env) (R : Room) (s : State) (m : MethodId) (args : Array Value) (below : List Frame) (meth : Method) (c : Code) (H : Heap) (locs : List Loc) (cells slots : Nat) (ls : Array Slot) (pc : Nat) (Qc : Array Value → State → Outcome → State → Prop),
    p.tables.exec = Jvm.exec → c.code = mdC y → meth.sig.returnType = mdR y → meth.locks = false → decode (mdC y) pc = .ok (rIns (mdR y), 1) → (mdR y = some .boolean → cv a = some (.int 0) ∨ cv a = some (.int 1)) →
    (∀ t : State, t.heap = H → s.WarmedH t.vm → Qc args s (.returned (cv a)) t) → (∀ q ∈ locs, kB κ ≤ q.base) →
    W p l e R s m args below meth c H locs cells slots (MQ below Qc args s cells slots (fun q => kB κ ≤ q)) (F0 m pc ls (cv a).toList)
theorem ret_I {κ : Cfg} {y : MD} (h : mdR y = some .int) : RetOk κ y cvI := by
  intro a p l e R s m args below meth c H locs cells slots ls pc Qc hx hb hr hlk hd hbo hq hf
  rw [h] at hr hd
  exact W.iret hx hb hr hq hf hd hlk
theorem ret_Z {κ : Cfg} {y : MD} (h : mdR y = some .boolean) : RetOk κ y cvI := by
  intro a p l e R s m args below meth c H locs cells slots ls pc Qc hx hb hr hlk hd hbo hq hf
  have hbo2 := hbo h
  rw [h] at hr hd
  have hn : narrow .boolean (.int a) = .int a := by
    rcases hbo2 with h9 | h9
    · have e9 : a = 0 := by simpa [cvI] using h9
      rw [e9]; rfl
    · have e9 : a = 1 := by simpa [cvI] using h9
      rw [e9]; rfl
  exact W.zret hx hb hr hn hq hf hd hlk
theorem ret_F {κ : Cfg} {y : MD} (h : mdR y = some .float) : RetOk κ y cvF := by
  intro a p l e R s m args below meth c H locs cells slots ls pc Qc hx hb hr hlk hd hbo hq hf
  rw [h] at hr hd
  exact W.fret hx hb hr hq hf hd hlk
theorem ret_V {κ : Cfg} {y : MD} (h : mdR y = none) : RetOk κ y cvV := by
  intro a p l e R s m args below meth c H locs cells slots ls pc Qc hx hb hr hlk hd hbo hq hf
  rw [h] at hr hd
  exact W.vret hx hb hr hq hf hd hlk
theorem ret_Q {κ : Cfg} {y : MD} {C : String} (h : mdR y = some (.object C)) : RetOk κ y (cvQ κ) := by
  intro a p l e R s m args below meth c H locs cells slots ls pc Qc hx hb hr hlk hd hbo hq hf
  rw [h] at hr hd
  exact W.aret hx hb hr (Or.inl ⟨_, rfl⟩) (va_rf_or _) hq hf hd hlk
def lvA : Nat → List Value → List (Nat × Value)
  | _, [] => []
  | i, v :: vs => (i, v) :: lvA (i + 1) vs
theorem lvA_eq : ∀ (as : List Value) (i : Nat), (∀ v ∈ as, v.category = 1) → lv_args i as = lvA i as := by
  intro as
  induction as with
  | nil => intro i _; rfl
  | cons v vs ih =>
    intro i h
    have h1 : v.category = 1 := h v List.mem_cons_self
    show (i, v) :: lv_args (if v.category = 2 then i + 2 else i + 1) vs = (i, v) :: lvA (i + 1) vs
    rw [if_neg (by omega), ih (i + 1) (fun w hw => h w (List.mem_cons_of_mem _ hw))]
theorem lvA_cat : ∀ (as : List Value) (i : Nat), (∀ v ∈ as, v.category = 1) → ∀ q ∈ lvA i as, q.2.category = 1 := by
  intro as
  induction as with
  | nil => intro i _ q hq; cases hq
  | cons v vs ih =>
    intro i h q hq
    rcases List.mem_cons.mp hq with rfl | hq
    · exact h v List.mem_cons_self
    · exact ih (i + 1) (fun w hw => h w (List.mem_cons_of_mem _ hw)) q hq
theorem sl_len : ∀ (as : List Value), (∀ v ∈ as, v.category = 1) → (lg_sl as).length = as.length := by
  intro as
  induction as with
  | nil => intro _; rfl
  | cons v vs ih =>
    intro h
    have h1 : v.category = 1 := h v List.mem_cons_self
    have h2 := ih (fun w hw => h w (List.mem_cons_of_mem _ hw))
    simp only [lg_sl, List.flatMap_cons, h1] at h2 ⊢
    simp [h2]
theorem Con.of {κ : Cfg} {y : MD} {n : Nat} {α : Type} {cv : α → Option Value} {o : Option (α × Mem)} {as : List Value} {M : Mem} (ok : MOk y n) (ret : RetOk κ y cv) (hcat : ∀ v ∈ as, v.category = 1) (hlen : as.length ≤ mdL y) (h : G κ y cv o 0 (lvA 0 as) [] M) : Con κ y as M cv o := by
  intro r hr
  obtain ⟨h1, h2⟩ := h r hr
  refine ⟨h1, fun l => ?_⟩
  refine va_MetF (cc := mdC y) (maxL := mdL y) (ret := mdR y) ok.1 rfl ?_
  intro p e s m args below meth c s₁ B hml hv
  obtain ⟨rfl, hH, hN⟩ := hv
  have hts : ∀ w ∈ wsOf y, w.before as.toArray s = true := atoms_spec (ws := wsOf y) B.pre
  rw [lg_entry_eq]
  have hl := lv_entry as (n := mdL y) (by rw [sl_len as hcat]; exact hlen)
  rw [lvA_eq as 0 hcat] at hl
  have X : Ctx κ y p (headSpec (wsOf y) { frames := mdF y, cells := mN r.2 - mN M, slots := mL r.2 - mL M, locals := mdK y }).room s m as.toArray meth c :=
    ⟨B.exec, B.bytes, hml, by rw [ok.2.2.2.2.2]; exact findClass_of_methodNamed B.named, fun w hw => hts w (List.mem_cons_of_mem _ hw), B.returns, B.notSynchronized, (fun h9 => (name_of_methodNamed B.named B.method).1.trans h9), hN, ⟨by rw [hH.1]; omega, hH.2.2.2⟩, Nat.le_refl _, Nat.le_refl _⟩
  refine h2 p l e _ s m as.toArray below meth c s.heap [] 0 0 _ _ X hH ⟨hl, lvA_cat as 0 hcat⟩ (fun q hq => by cases hq) (by rw [Nat.zero_add]; exact Nat.le_refl _) (by rw [Nat.zero_add]; exact Nat.le_refl _) ?_
  intro H' locs' ls' pc' hH' hlo' hd' hb'
  have hfin := ret r.1 p l e (headSpec (wsOf y) { frames := mdF y, cells := mN r.2 - mN M, slots := mL r.2 - mL M, locals := mdK y }).room s m as.toArray below meth c H' locs' (0 + (mN r.2 - mN M)) (0 + (mL r.2 - mL M)) ls' pc' (QcK κ (cv r.1) r.2) B.exec B.bytes B.returns B.notSynchronized hd' hb' (fun t ht _ => ⟨rfl, by rw [ht]; exact hH'⟩) hlo'
  rw [Nat.zero_add, Nat.zero_add] at hfin ⊢
  exact hfin
theorem cat_le (v : Value) : v.category ≤ 2 := by rcases lv_cat v with h | h <;> omega
theorem room_st (st : List Value) (h : st.length ≤ 4) : (st.map fun v => v.category).sum ≤ 8 := by
  have : ∀ (l : List Value), (l.map fun v => v.category).sum ≤ 2 * l.length := by
    intro l
    induction l with
    | nil => simp
    | cons v vs ih => have := cat_le v; simp only [List.map_cons, List.sum_cons, List.length_cons]; omega
  have := this st
  omega
section CALLS
variable {κ : Cfg} {y : MD} {α : Type} {cv : α → Option Value} {o : Option (α × Mem)} {pc : Nat} {lv : List (Nat × Value)} {st : List Value} {M : Mem}
theorem G_call {β : Type} {cv' : β → Option Value} {o' : Option (β × Mem)} {K : β → Mem → Option (α × Mem)} {y' : MD} {as stk : List Value} (hc : Con κ y' as M cv' o')
    (hrun : ∀ (p : Program) (l : Launch) (e : Env) (R : Room) (s : State) (m : MethodId) (args : Array Value) (below : List Frame) (meth : Method) (c : Code) (H : Heap) (locs : List Loc) (cells slots : Nat) (ls : Array Slot) (r : β × Mem),
      Ctx κ y p R s m args meth c → HR κ M H → LV ls (mdL y) lv →
      Met l (mdY y') (wsOf y') { frames := mdF y', cells := mN r.2 - mN M, slots := mL r.2 - mL M, locals := mdK y' } (PcK κ as M) (QcK κ (cv' r.1) r.2) (mN r.2 - mN M) (mL r.2 - mL M) (fun q => kB κ ≤ q) →
      cells + (mN r.2 - mN M) ≤ R.cells → slots + (mL r.2 - mL M) ≤ R.slots →
      va_Run p l e R s m args below meth c H locs cells slots (mN r.2 - mN M) (mL r.2 - mL M) (F0 m pc ls stk) st (QcK κ (cv' r.1) r.2 as.toArray) (fun q => kB κ ≤ q))
    (k : ∀ v M1, G κ y cv (K v M1) (pc + 3) lv ((cv' v).toList ++ st) M1) : G κ y cv (cl o' K) pc lv stk M := by
  intro r hr
  cases ho : o' with
  | none => rw [ho] at hr; cases hr
  | some z =>
    rw [ho] at hr
    obtain ⟨⟨a1, a2⟩, hmet⟩ := hc z ho
    obtain ⟨⟨b1, b2⟩, hw⟩ := k z.1 z.2 r hr
    refine ⟨⟨by omega, by omega⟩, ?_⟩
    intro p l e R s m args below meth c H locs cells slots ls Q X hH hl hlo hcl hsl fin
    have hr1 := hrun p l e R s m args below meth c H locs cells slots ls z X hH hl (hmet l) (by omega) (by omega)
    intro T hT XT
    obtain ⟨v, st₀, t, T', L, h0, X', hL, e1, e2, hq, hgo⟩ := hr1 T hT XT
    obtain ⟨hv, hH'⟩ := hq
    cases hv
    have e5 : cells + (mN z.2 - mN M) + (mN r.2 - mN z.2) = cells + (mN r.2 - mN M) := by omega
    have e6 : slots + (mL z.2 - mL M) + (mL r.2 - mL z.2) = slots + (mL r.2 - mL M) := by omega
    have h5 := hw p l e R s m args below meth c T'.heap (locs ++ L) (cells + (mN z.2 - mN M)) (slots + (mL z.2 - mL M)) ls Q X (by rw [e1]; exact hH') hl (fun q hq => by
      rcases List.mem_append.mp hq with h | h
      · exact hlo q h
      · exact hL q h)
    rw [e5, e6] at h5
    obtain ⟨t2, c1, d1⟩ := h5 hcl hsl fin T' rfl X'
    exact ⟨t2, hgo t2 c1, d1⟩
theorem MOk.len {y' : MD} {n : Nat} (ok : MOk y' n) : ∀ sig, parseMethodDescriptor (mdY y').desc = some sig → n = sig.parameters.length := by
  intro sig h
  have h2 := ok.2.2.2.2.1
  rw [h] at h2
  exact (Option.some.inj h2).symm
theorem ws_keep {p : Program} {R : Room} {s : State} {m : MethodId} {args : Array Value} {meth : Method} {c : Code} {y' : MD} {n : Nat} (ok : MOk y' n) (X : Ctx κ y p R s m args meth c) : ∀ w ∈ wsOf y', ∀ (a' : Array Value) (U : State), s.WarmedH U.vm → w.before a' U = true := by
  intro w hw a' U hW
  have hm : w ∈ WS := by
    rcases List.mem_cons.mp hw with rfl | h
    · exact ok.2.1
    · exact h
  exact word_at hW (good_of_word (ws_good w hm)) (X.w w hm)
theorem callB {p : Program} {R : Room} {s : State} {m : MethodId} {args : Array Value} {meth : Method} {c : Code} {y' : MD} {n idx mc ms : Nat} (ok : MOk y' n) (hl : Jvm.Cond.methodLink (mdO y) idx (mdY y') ∈ WS) (hF : mdF y' + 1 ≤ mdF y) (hK : 8 + (mdL y' + 11) + mdK y' ≤ mdK y) (X : Ctx κ y p R s m args meth c) :
    CallB R s args (mdO y) idx (mdY y') (mdC y') (mdL y') (mdR y') (wsOf y') { frames := mdF y', cells := mc, slots := ms, locals := mdK y' } mc ms n :=
  ⟨rfl, rfl, Nat.le_trans hF X.2.2.2.2.2.2.2.2.2.2.1, Nat.le_trans hK X.2.2.2.2.2.2.2.2.2.2.2, ws_keep ok X, List.mem_cons_self, X.w _ ok.2.1, X.w _ ok.2.2.1, ok.2.2.2.1, ok.len, X.w _ hl⟩
theorem callN {p : Program} {R : Room} {s : State} {m : MethodId} {args : Array Value} {meth : Method} {c : Code} {y' : MD} {n idx mc ms : Nat} (ok : MOk y' n) (hl : (mdO y, idx, mdY y') ∈ nestL) (hF : mdF y' + 1 ≤ mdF y) (hK : 8 + (mdL y' + 11) + mdK y' ≤ mdK y) (X : Ctx κ y p R s m args meth c) :
    va_CN R s args (mdO y) idx (mdY y') RX10 (mdC y') (mdL y') (mdR y') (wsOf y') { frames := mdF y', cells := mc, slots := ms, locals := mdK y' } mc ms n :=
  ⟨⟨rfl, rfl, Nat.le_trans hF X.2.2.2.2.2.2.2.2.2.2.1, Nat.le_trans hK X.2.2.2.2.2.2.2.2.2.2.2, ws_keep ok X, List.mem_cons_self⟩, X.w _ ok.2.1, X.w _ ok.2.2.1, ok.2.2.2.1, ok.len, va_Nw.use rfl (X.2.2.2.2.2.2.2.2.1.2.1 _ hl)⟩
theorem fix {p : Program} {R : Room} {s : State} {m : MethodId} {args : Array Value} {meth : Method} {c : Code} (X : Ctx κ y p R s m args meth c) : CallFix p m c (mdC y) (mdL y) s args WS (mdO y) := ⟨X.1, X.2.1, X.2.2.1, X.2.2.2.1, X.w⟩
theorem preS {p : Program} {R : Room} {s : State} {m : MethodId} {args : Array Value} {meth : Method} {c : Code} {H : Heap} {as : List Value} (X : Ctx κ y p R s m args meth c) (hH : HR κ M H) : PreS s H (PcK κ as M) as :=
  ⟨PcK.blind, fun U hU hW => ⟨rfl, by rw [hU]; exact hH, NK.warm hW X.2.2.2.2.2.2.2.2.1⟩⟩
theorem G_callS {β : Type} {cv' : β → Option Value} {o' : Option (β × Mem)} {K : β → Mem → Option (α × Mem)} {y' : MD} {n idx : Nat} (ok : MOk y' n) (as st : List Value) {stk : List Value} (hc : Con κ y' as M cv' o') (hn : as.length = n)
    (hl : Jvm.Cond.methodLink (mdO y) idx (mdY y') ∈ WS) (hst : Jvm.Cond.static (mdY y') ∈ WS) (hF : mdF y' + 1 ≤ mdF y) (hK : 8 + (mdL y' + 11) + mdK y' ≤ mdK y) (hd : decode (mdC y) pc = .ok (.invokestatic idx, 3)) (hstk : stk = as.reverse ++ st) (h4 : st.length ≤ 4)
    (k : ∀ v M1, G κ y cv (K v M1) (pc + 3) lv ((cv' v).toList ++ st) M1) : G κ y cv (cl o' K) pc lv stk M := by
  subst hstk
  refine G_call hc ?_ k
  intro p l e R s m args below meth c H locs cells slots ls r X hH hl0 hM h1 h2
  exact va_runS (fix X) hM ⟨callB ok hl hF hK X, X.w _ hst⟩ (preS X hH) rfl hn hl0.1.1 rfl (lv_room (room_st st h4)) hd ⟨h1, h2⟩
theorem G_callSN {β : Type} {cv' : β → Option Value} {o' : Option (β × Mem)} {K : β → Mem → Option (α × Mem)} {y' : MD} {n idx : Nat} (ok : MOk y' n) (as st : List Value) {stk : List Value} (hc : Con κ y' as M cv' o') (hn : as.length = n)
    (hl : (mdO y, idx, mdY y') ∈ nestL) (hst : Jvm.Cond.static (mdY y') ∈ WS) (hF : mdF y' + 1 ≤ mdF y) (hK : 8 + (mdL y' + 11) + mdK y' ≤ mdK y) (hd : decode (mdC y) pc = .ok (.invokestatic idx, 3)) (hstk : stk = as.reverse ++ st) (h4 : st.length ≤ 4)
    (k : ∀ v M1, G κ y cv (K v M1) (pc + 3) lv ((cv' v).toList ++ st) M1) : G κ y cv (cl o' K) pc lv stk M := by
  subst hstk
  refine G_call hc ?_ k
  intro p l e R s m args below meth c H locs cells slots ls r X hH hl0 hM h1 h2
  exact va_runSN (fix X) hM ⟨callN ok hl hF hK X, X.w _ hst, trivial⟩ (preS X hH) rfl hn hl0.1.1 rfl (lv_room (room_st st h4)) hd ⟨h1, h2⟩
theorem G_callV {β : Type} {cv' : β → Option Value} {o' : Option (β × Mem)} {K : β → Mem → Option (α × Mem)} {y' : MD} {n idx ci : Nat} {C : String} {T : u_T} {N : Nat} {ty : Nat → FieldType} (cf : CF ci C T N ty) (ok : MOk y' n) (as st : List Value) {stk : List Value} {ob : Option Nat} (hc : Con κ y' (rv κ ob :: as) M cv' o') (hn : as.length = n)
    (hl : Jvm.Cond.methodLink (mdO y) idx (mdY y') ∈ WS) (hin : Jvm.Cond.instanceMethod (mdY y') ∈ WS) (hsel : Jvm.Cond.selects C (mdY y') (mdY y') ∈ WS) (hF : mdF y' + 1 ≤ mdF y) (hK : 8 + (mdL y' + 11) + mdK y' ≤ mdK y) (hd : decode (mdC y) pc = .ok (.invokevirtual idx, 3)) (hstk : stk = as.reverse ++ rv κ ob :: st) (h4 : st.length ≤ 4)
    (k : ∀ v M1, G κ y cv (K v M1) (pc + 3) lv ((cv' v).toList ++ st) M1) : G κ y cv (rc M ci ob (cl o' K)) pc lv stk M := by
  subst hstk
  cases ob with
  | none => exact G.none'
  | some a =>
    show G κ y cv (if (mS M a).1 = ci then cl o' K else none) pc lv _ M
    refine G.cond (fun hs => ?_) (fun _ => G.none')
    refine G_call hc ?_ k
    intro p l e R s m args below meth c H locs cells slots ls r X hH hl0 hM h1 h2
    have hlt : (mS M a).1 < 900 := by have := cf.1; omega
    have hat := (hH.2.2.1 a hlt).2
    rw [enc_obj hs cf.1] at hat
    obtain ⟨cell, g1, g2, g3⟩ := va_recv X.K (P1 hat) (ci := ci) (q0 := 0) cf.2.1 rfl
    rw [← (hH.lt hlt).2] at g1
    exact va_runV (C := C) (b := kad κ a) (As := as) (fix X) hM ⟨callB ok hl hF hK X, X.w _ hin, X.w _ hsel⟩ ⟨PcK.blind, ⟨cell, g1, g2, g3⟩, (preS X hH).2⟩ rfl hn hl0.1.1 rfl (lv_room (room_st st h4)) hd ⟨h1, h2⟩
theorem G_callI {o' : Option (Unit × Mem)} {K : Unit → Mem → Option (α × Mem)} {y' : MD} {n idx : Nat} (ok : MOk y' n) (as st : List Value) {stk : List Value} {ob : Option Nat} {ci : Nat} (hc : Con κ y' (rv κ ob :: as) M cvV o') (hn : as.length = n)
    (hl : Jvm.Cond.methodLink (mdO y) idx (mdY y') ∈ WS) (hin : Jvm.Cond.instanceMethod (mdY y') ∈ WS) (hnm : (mdY y').name = "<init>") (hrt : mdR y' = none) (hF : mdF y' + 1 ≤ mdF y) (hK : 8 + (mdL y' + 11) + mdK y' ≤ mdK y) (hd : decode (mdC y) pc = .ok (.invokespecial idx, 3)) (hstk : stk = as.reverse ++ rv κ ob :: st) (h4 : st.length ≤ 4)
    (k : ∀ v M1, G κ y cv (K v M1) (pc + 3) lv st M1) : G κ y cv (rc M ci ob (cl o' K)) pc lv stk M := by
  subst hstk
  cases ob with
  | none => exact G.none'
  | some a =>
    show G κ y cv (if (mS M a).1 = ci then cl o' K else none) pc lv _ M
    refine G.cond (fun hs => ?_) (fun _ => G.none')
    refine G_call hc ?_ k
    intro p l e R s m args below meth c H locs cells slots ls r X hH hl0 hM h1 h2
    have hcb := callB (mc := mN r.2 - mN M) (ms := mL r.2 - mL M) ok hl hF hK X
    rw [hrt] at hcb
    exact va_runI (b := kad κ a) (As := as) (fix X) hM ⟨hcb, hnm, X.w _ hin⟩ (preS X hH) rfl hn hl0.1.1 rfl (lv_room (room_st st h4)) hd ⟨h1, h2⟩
theorem G_callIN {o' : Option (Unit × Mem)} {K : Unit → Mem → Option (α × Mem)} {y' : MD} {n idx : Nat} (ok : MOk y' n) (as st : List Value) {stk : List Value} {ob : Option Nat} {ci : Nat} (hc : Con κ y' (rv κ ob :: as) M cvV o') (hn : as.length = n)
    (hl : (mdO y, idx, mdY y') ∈ nestL) (hin : Jvm.Cond.instanceMethod (mdY y') ∈ WS) (hnm : (mdY y').name = "<init>") (hrt : mdR y' = none) (hF : mdF y' + 1 ≤ mdF y) (hK : 8 + (mdL y' + 11) + mdK y' ≤ mdK y) (hd : decode (mdC y) pc = .ok (.invokespecial idx, 3)) (hstk : stk = as.reverse ++ rv κ ob :: st) (h4 : st.length ≤ 4)
    (k : ∀ v M1, G κ y cv (K v M1) (pc + 3) lv st M1) : G κ y cv (rc M ci ob (cl o' K)) pc lv stk M := by
  subst hstk
  cases ob with
  | none => exact G.none'
  | some a =>
    show G κ y cv (if (mS M a).1 = ci then cl o' K else none) pc lv _ M
    refine G.cond (fun hs => ?_) (fun _ => G.none')
    refine G_call hc ?_ k
    intro p l e R s m args below meth c H locs cells slots ls r X hH hl0 hM h1 h2
    have hcb := callN (mc := mN r.2 - mN M) (ms := mL r.2 - mL M) ok hl hF hK X
    rw [hrt] at hcb
    exact va_runIN (b := kad κ a) (As := as) (fix X) hM ⟨hcb, hnm, X.w _ hin⟩ (preS X hH) rfl hn hl0.1.1 rfl (lv_room (room_st st h4)) hd ⟨h1, h2⟩
/-- Object's own constructor -/
def oi {β : Type} (ob : Option Nat) (r : Option β) : Option β := match ob with | none => none | some _ => r
theorem G_objInit {ob : Option Nat} {idx : Nat} (hl : Jvm.Cond.methodLink (mdO y) idx Lib.objectInit ∈ WS) (hin : Jvm.Cond.instanceMethod Lib.objectInit ∈ WS) (hco : Jvm.Cond.code Lib.objectInit ⟨#[0xb1]⟩ 1 none ∈ WS) (hF : 1 ≤ mdF y) (hK : 20 ≤ mdK y) (h4 : st.length ≤ 4) (hd : decode (mdC y) pc = .ok (.invokespecial idx, 3)) (k : G κ y cv o (pc + 3) lv st M) : G κ y cv (oi ob o) pc lv (rv κ ob :: st) M := by
  cases ob with
  | none => exact G.none'
  | some a =>
    refine G.step k ?_
    intro p l e R s m args below meth c H locs cells slots ls Q X hH hl0 kk
    exact W.objInit X.1 X.2.1 X.2.2.2.1 (X.w _ hl) (X.w _ hin) (X.w _ hco) rfl (hl0.1.1.trans X.2.2.1.symm) rfl hd (Nat.le_trans hF X.2.2.2.2.2.2.2.2.2.2.1) (by
      have h8 := lv_room (m := m) (pc := pc) (ls := ls) (rest := rv κ (some a) :: st) (room_st st h4)
      have h9 := X.2.2.2.2.2.2.2.2.2.2.2
      omega) (kk ls hl0)
def imax (x z : Int32) : Int32 := if x < z then z else x
def imin (x z : Int32) : Int32 := if z < x then z else x
theorem G_max {x z : Int32} {idx : Nat} (hl : Jvm.Cond.methodLink (mdO y) idx Lib.Math.max.name ∈ WS) (h1 : Jvm.Cond.static Lib.Math.max.name ∈ WS) (h2 : Jvm.Cond.initialized "java/lang/Math" ∈ WS) (h3 : Jvm.Cond.code Lib.Math.max.name Lib.Math.max.code 2 (some .int) ∈ WS) (hF : 1 ≤ mdF y) (hK : 21 ≤ mdK y) (h4 : st.length ≤ 4) (hd : decode (mdC y) pc = .ok (.invokestatic idx, 3)) (k : G κ y cv o (pc + 3) lv (.int (imax x z) :: st) M) : G κ y cv o pc lv (.int z :: .int x :: st) M := by
  intro r hr
  obtain ⟨g1, g2⟩ := k r hr
  refine ⟨g1, ?_⟩
  intro p l e R s m args below meth c H locs cells slots ls Q X hH hl0 hlo hc hs fin
  have h8 := room_st st h4
  have h9 := X.2.2.2.2.2.2.2.2.2.2.2
  exact va_mmax X.1 X.2.1 (X.2.2.1.trans hl0.1.1.symm) X.2.2.2.1 (X.w _ hl) (X.w _ h1) (X.w _ h2) (X.w _ h3) (Nat.le_trans hF X.2.2.2.2.2.2.2.2.2.2.1) (by omega) (by omega) (by omega) hd (g2 p l e R s m args below meth c H locs cells slots ls Q X hH hl0 hlo hc hs fin)
theorem G_min {x z : Int32} {idx : Nat} (hl : Jvm.Cond.methodLink (mdO y) idx Lib.Math.min.name ∈ WS) (h1 : Jvm.Cond.static Lib.Math.min.name ∈ WS) (h2 : Jvm.Cond.initialized "java/lang/Math" ∈ WS) (h3 : Jvm.Cond.code Lib.Math.min.name Lib.Math.min.code 2 (some .int) ∈ WS) (hF : 1 ≤ mdF y) (hK : 21 ≤ mdK y) (h4 : st.length ≤ 4) (hd : decode (mdC y) pc = .ok (.invokestatic idx, 3)) (k : G κ y cv o (pc + 3) lv (.int (imin x z) :: st) M) : G κ y cv o pc lv (.int z :: .int x :: st) M := by
  intro r hr
  obtain ⟨g1, g2⟩ := k r hr
  refine ⟨g1, ?_⟩
  intro p l e R s m args below meth c H locs cells slots ls Q X hH hl0 hlo hc hs fin
  have h8 := room_st st h4
  have h9 := X.2.2.2.2.2.2.2.2.2.2.2
  exact va_mmin X.1 X.2.1 (X.2.2.1.trans hl0.1.1.symm) X.2.2.2.1 (X.w _ hl) (X.w _ h1) (X.w _ h2) (X.w _ h3) (Nat.le_trans hF X.2.2.2.2.2.2.2.2.2.2.1) (by omega) (by omega) (by omega) hd (g2 p l e R s m args below meth c H locs cells slots ls Q X hH hl0 hlo hc hs fin)
/-- the method's end -/
theorem G_ret {v : α} (hd : decode (mdC y) pc = .ok (rIns (mdR y), 1)) (hnb : mdR y ≠ some .boolean) (hst : st = (cv v).toList) : G κ y cv (rt v M) pc lv st M := by
  subst hst
  intro r hr
  cases hr
  refine ⟨⟨Nat.le_refl _, Nat.le_refl _⟩, ?_⟩
  intro p l e R s m args below meth c H locs cells slots ls Q X hH hl0 hlo hc hs fin
  have h := fin H locs ls pc hH hlo hd (fun h9 => absurd h9 hnb)
  simp only [Nat.sub_self, Nat.add_zero] at h
  exact h
end CALLS
theorem G_retZ {κ : Cfg} {y : MD} {pc : Nat} {lv : List (Nat × Value)} {M : Mem} {v : Int32} (hd : decode (mdC y) pc = .ok (rIns (mdR y), 1)) : G κ y cvI (rtZ v M) pc lv [.int v] M := by
  unfold rtZ
  refine G.cond (fun hv => ?_) (fun _ => G.none')
  intro r hr
  cases hr
  refine ⟨⟨Nat.le_refl _, Nat.le_refl _⟩, ?_⟩
  intro p l e R s m args below meth c H locs cells slots ls Q X hH hl0 hlo hc hs fin
  have h := fin H locs ls pc hH hlo hd (fun _ => by rcases hv with h | h <;> rw [h] <;> simp)
  simp only [Nat.sub_self, Nat.add_zero] at h
  exact h
