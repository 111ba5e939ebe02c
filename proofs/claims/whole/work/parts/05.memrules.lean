section MEMRULES
variable {κ : Cfg} {y : MD} {α : Type} {cv : α → Option Value} {o o1 o2 : Option (α × Mem)} {pc : Nat} {lv lv' : List (Nat × Value)} {st : List Value} {M : Mem}
/-- a step that writes -/
theorem G.stepM {o : Option (α × Mem)} {pc' : Nat} {st' : List Value} {M' : Mem} (hn : mN M' = mN M) (hL : mL M' = mL M) (k : G κ y cv o pc' lv st' M')
    (h : ∀ (p : Program) (l : Launch) (e : Env) (R : Room) (s : State) (m : MethodId) (args : Array Value) (below : List Frame) (meth : Method) (c : Code) (H : Heap) (locs : List Loc) (cells slots : Nat) (ls : Array Slot) (Q : State → Prop),
      Ctx κ y p R s m args meth c → HR κ M H → LV ls (mdL y) lv → (∀ (H' : Heap) (a f : Nat), HR κ M' H' → W p l e R s m args below meth c H' (locs ++ [⟨kB κ + a, f⟩]) cells slots Q (F0 m pc' ls st')) → W p l e R s m args below meth c H locs cells slots Q (F0 m pc ls st)) : G κ y cv o pc lv st M := by
  intro r hr
  obtain ⟨h1, h2⟩ := k r hr
  rw [hn, hL] at h1
  refine ⟨h1, ?_⟩
  intro p l e R s m args below meth c H locs cells slots ls Q X hH hl hlo hc hs fin
  refine h p l e R s m args below meth c H locs cells slots ls Q X hH hl (fun H' a f hH' => ?_)
  have h3 := h2 p l e R s m args below meth c H' (locs ++ [⟨kB κ + a, f⟩]) cells slots ls Q X hH' hl (fun q hq => by
    rcases List.mem_append.mp hq with h | h
    · exact hlo q h
    · rw [List.mem_singleton.mp h]; exact Nat.le_add_right _ _)
  rw [hn, hL] at h3
  exact h3 hc hs fin
/-- a step that makes a cell -/
theorem G.stepN {o : Option (α × Mem)} {pc' : Nat} {st' : List Value} {M' : Mem} {sl : Nat} (hn : mN M' = mN M + 1) (hL : mL M' = mL M + sl) (k : G κ y cv o pc' lv st' M')
    (h : ∀ (p : Program) (l : Launch) (e : Env) (R : Room) (s : State) (m : MethodId) (args : Array Value) (below : List Frame) (meth : Method) (c : Code) (H : Heap) (locs : List Loc) (cells slots : Nat) (ls : Array Slot) (Q : State → Prop),
      Ctx κ y p R s m args meth c → HR κ M H → LV ls (mdL y) lv → cells + 1 ≤ R.cells → slots + sl ≤ R.slots → (∀ (H' : Heap), HR κ M' H' → W p l e R s m args below meth c H' locs (cells + 1) (slots + sl) Q (F0 m pc' ls st')) → W p l e R s m args below meth c H locs cells slots Q (F0 m pc ls st)) : G κ y cv o pc lv st M := by
  intro r hr
  obtain ⟨h1, h2⟩ := k r hr
  rw [hn, hL] at h1
  refine ⟨⟨by omega, by omega⟩, ?_⟩
  intro p l e R s m args below meth c H locs cells slots ls Q X hH hl hlo hc hs fin
  refine h p l e R s m args below meth c H locs cells slots ls Q X hH hl (by omega) (by omega) (fun H' hH' => ?_)
  have h3 := h2 p l e R s m args below meth c H' locs (cells + 1) (slots + sl) ls Q X hH' hl hlo
  rw [hn, hL] at h3
  have e1 : cells + 1 + (mN r.2 - (mN M + 1)) = cells + (mN r.2 - mN M) := by omega
  have e2 : slots + sl + (mL r.2 - (mL M + sl)) = slots + (mL r.2 - mL M) := by omega
  rw [e1, e2] at h3
  exact h3 hc hs fin
theorem G.sub {lv' : List (Nat × Value)} (ks : List Nat) (h : ks.filterMap (fun i => lv[i]?) = lv') (k : G κ y cv o pc lv' st M) : G κ y cv o pc lv st M :=
  G.step k fun p l e R s m args below meth c H locs cells slots ls Q X hH hl kk => kk ls (by
    have hm : ∀ q ∈ lv', q ∈ lv := fun q hq => by
      rw [← h] at hq
      obtain ⟨i, -, hi⟩ := List.mem_filterMap.mp hq
      exact List.mem_of_getElem? hi
    exact ⟨⟨hl.1.1, hl.1.2.1, fun q hq => hl.1.2.2 q (hm q hq)⟩, fun q hq => hl.2 q (hm q hq)⟩)
theorem G.jn {A : Type} {P : A → Prop} {f : A} {b : A → Option (α × Mem)} (hf : P f) (hb : ∀ J, P J → G κ y cv (b J) pc lv st M) : G κ y cv (jn f b) pc lv st M := hb f hf
theorem G.loop {A : Type} {B : (A → Option (α × Mem)) → A → Option (α × Mem)} {lvf : A → List (Nat × Value)} {mf : A → Mem} (h : ∀ L, (∀ a, G κ y cv (L a) pc (lvf a) st (mf a)) → ∀ a, G κ y cv (B L a) pc (lvf a) st (mf a)) : ∀ (n : Nat) (a : A), G κ y cv (lp B n a) pc (lvf a) st (mf a) := by
  intro n
  induction n with
  | zero => intro a; exact G.none'
  | succ n ih => intro a; exact h (lp B n) ih a
theorem Ctx.K {p : Program} {R : Room} {s : State} {m : MethodId} {args : Array Value} {meth : Method} {c : Code} (X : Ctx κ y p R s m args meth c) : va_K (kD κ) vwCl (tys κ) s := X.2.2.2.2.2.2.2.2.1.1
theorem Ctx.w {p : Program} {R : Room} {s : State} {m : MethodId} {args : Array Value} {meth : Method} {c : Code} (X : Ctx κ y p R s m args meth c) : ∀ w ∈ WS, w.before args s = true := X.2.2.2.2.1

theorem G_getI {ci j idx : Nat} {C : String} {T : u_T} {N : Nat} {ty : Nat → FieldType} (cf : CF ci C T N ty) {ob : Option Nat} {K : Int32 → Option (α × Mem)} (hj : (kd ci)[j]? = some 0) (hl : Jvm.Cond.fieldLink (mdO y) idx (T j).1 (T j).2.1 (T j).2.2.1 ∈ WS) (hd : decode (mdC y) pc = .ok (.getfield idx, 3)) (k : ∀ x, G κ y cv (K x) (pc + 3) lv (.int x :: st) M) : G κ y cv (dI M ci j ob K) pc lv (rv κ ob :: st) M := by
  cases ob with
  | none => exact G.none'
  | some a =>
    show G κ y cv (if (mS M a).1 = ci then K (mI M (32 * ci + j) a) else none) pc lv _ M
    refine G.cond (fun hs => G.step (k _) ?_) (fun _ => G.none')
    intro p l e R s m args below meth c H locs cells slots ls Q X hH hl0 kk
    have hlt : (mS M a).1 < 900 := by have := cf.1; omega
    have hat := (hH.2.2.1 a hlt).2
    rw [enc_obj hs cf.1] at hat
    rw [rv_some, (hH.lt hlt).2]
    have hjN : j < N := by rw [← cf.2.2.2.2.2]; exact (List.getElem?_eq_some_iff.mp hj).1
    refine va_get (D := kD κ) (own := mdO y) X.1 X.2.1 X.w cf.2.2.1 X.2.2.2.1 X.K (P1 hat) 0 rfl cf.2.1 j hjN (X.w _ hl) (fun _ h => h) (fls_get hj) hd ?_
    exact kk ls hl0
theorem G_getF {ci j idx : Nat} {C : String} {T : u_T} {N : Nat} {ty : Nat → FieldType} (cf : CF ci C T N ty) {ob : Option Nat} {K : UInt32 → Option (α × Mem)} (hj : (kd ci)[j]? = some 1) (hl : Jvm.Cond.fieldLink (mdO y) idx (T j).1 (T j).2.1 (T j).2.2.1 ∈ WS) (hd : decode (mdC y) pc = .ok (.getfield idx, 3)) (k : ∀ x, G κ y cv (K x) (pc + 3) lv (.float x :: st) M) : G κ y cv (dF M ci j ob K) pc lv (rv κ ob :: st) M := by
  cases ob with
  | none => exact G.none'
  | some a =>
    show G κ y cv (if (mS M a).1 = ci then K (mF M (32 * ci + j) a) else none) pc lv _ M
    refine G.cond (fun hs => G.step (k _) ?_) (fun _ => G.none')
    intro p l e R s m args below meth c H locs cells slots ls Q X hH hl0 kk
    have hlt : (mS M a).1 < 900 := by have := cf.1; omega
    have hat := (hH.2.2.1 a hlt).2
    rw [enc_obj hs cf.1] at hat
    rw [rv_some, (hH.lt hlt).2]
    have hjN : j < N := by rw [← cf.2.2.2.2.2]; exact (List.getElem?_eq_some_iff.mp hj).1
    refine va_get (D := kD κ) (own := mdO y) X.1 X.2.1 X.w cf.2.2.1 X.2.2.2.1 X.K (P1 hat) 0 rfl cf.2.1 j hjN (X.w _ hl) (fun _ h => h) (fls_get hj) hd ?_
    exact kk ls hl0
theorem G_getP {ci j idx : Nat} {C : String} {T : u_T} {N : Nat} {ty : Nat → FieldType} (cf : CF ci C T N ty) {ob : Option Nat} {K : Option Nat → Option (α × Mem)} (hj : (kd ci)[j]? = some 2) (hl : Jvm.Cond.fieldLink (mdO y) idx (T j).1 (T j).2.1 (T j).2.2.1 ∈ WS) (hd : decode (mdC y) pc = .ok (.getfield idx, 3)) (k : ∀ x, G κ y cv (K x) (pc + 3) lv (rv κ x :: st) M) : G κ y cv (dP M ci j ob K) pc lv (rv κ ob :: st) M := by
  cases ob with
  | none => exact G.none'
  | some a =>
    show G κ y cv (if (mS M a).1 = ci then K (mP M (32 * ci + j) a) else none) pc lv _ M
    refine G.cond (fun hs => G.step (k _) ?_) (fun _ => G.none')
    intro p l e R s m args below meth c H locs cells slots ls Q X hH hl0 kk
    have hlt : (mS M a).1 < 900 := by have := cf.1; omega
    have hat := (hH.2.2.1 a hlt).2
    rw [enc_obj hs cf.1] at hat
    rw [rv_some, (hH.lt hlt).2]
    have hjN : j < N := by rw [← cf.2.2.2.2.2]; exact (List.getElem?_eq_some_iff.mp hj).1
    refine va_get (D := kD κ) (own := mdO y) X.1 X.2.1 X.w cf.2.2.1 X.2.2.2.1 X.K (P1 hat) 0 rfl cf.2.1 j hjN (X.w _ hl) (fun _ h => h) (fls_get hj) hd ?_
    exact kk ls hl0
theorem put_core {p : Program} {l : Launch} {e : Env} {R : Room} {s : State} {m : MethodId} {args : Array Value} {below : List Frame} {meth : Method} {c : Code} {H : Heap} {locs : List Loc} {cells slots : Nat} {ls : Array Slot} {Q : State → Prop} {M' : Mem} {a ci j idx : Nat} {C : String} {T : u_T} {N : Nat} {ty : Nat → FieldType} {v : Value}
    (cf : CF ci C T N ty) (X : Ctx κ y p R s m args meth c) (hH : HR κ M H) (hs : (mS M a).1 = ci) (hjN : j < N) (hl : Jvm.Cond.fieldLink (mdO y) idx (T j).1 (T j).2.1 (T j).2.2.1 ∈ WS) (hfin : (T j).2.2.2 = false ∨ ((T j).2.2.2 = true ∧ (mdY y).name = "<init>" ∧ (T j).1 = mdO y)) (hn : narrow (ty j) v = v) (hfit : fits (ty j) v = true)
    (hnM : mN M' = mN M) (hsh : ∀ q, mS M' q = mS M q) (hI : ∀ k q, q ≠ a → mI M' k q = mI M k q) (hF : ∀ k q, q ≠ a → mF M' k q = mF M k q) (hP : ∀ k q, q ≠ a → mP M' k q = mP M k q) (hfl : fls κ M' ci a = (fls κ M ci a).set j v) (hd : decode (mdC y) pc = .ok (.putfield idx, 3))
    (kk : ∀ (H' : Heap) (a f : Nat), HR κ M' H' → W p l e R s m args below meth c H' (locs ++ [⟨kB κ + a, f⟩]) cells slots Q (F0 m (pc + 3) ls st)) : W p l e R s m args below meth c H locs cells slots Q (F0 m pc ls (v :: .ref (kB κ + a) :: st)) := by
  have hK := X.K
  have hts := X.w
  have hap := va_apart (own := mdO y) hts cf.2.2.1 ty cf.2.2.2.1 cf.2.2.2.2.1 hK cf.2.1
  have hlt : (mS M a).1 < 900 := by have := cf.1; omega
  have hat := (hH.2.2.1 a hlt).2
  rw [enc_obj hs cf.1] at hat
  obtain ⟨r, h1, cell, q1, q2, q3, q4⟩ := hat
  have hr : r = (C, T, N) := Option.some.inj (h1.symm.trans cf.2.1)
  subst hr
  obtain ⟨hS, hfc, kC, hkC, hkind⟩ := hK.1 ci _ cf.2.1
  obtain ⟨cf', kf, fi, f, hi, hsl⟩ := hS j hjN
  have hlay := hts _ (cf.2.2.1 _ (u_in_lay hjN))
  have hst := (u_facts hfc hkC (u_lays hts cf.2.2.1 hjN) hi).1
  have fin : ∀ H' : Heap, H'[kB κ + a]? = some (cell.setSlot f.slot v) → H'.size = H.size → (∀ q, q ≠ kB κ + a → H'[q]? = H[q]?) → HR κ M' H' := by
    intro H' e1 e2 e3
    rw [hsl] at e1
    refine hH.write hlt hnM hsh hI hF hP ?_ e2 e3
    rw [enc_obj (by rw [hsh]; exact hs) cf.1, hfl]
    exact ⟨_, cf.2.1, t_OB.to (V := updV (vp_V (fls κ M ci a)) j v) ⟨_, e1, q2, q3, t_set q4 hap hjN v⟩ (fun i _ => vp_updV_set (by rw [fls_len, cf.2.2.2.2.2]; exact hjN) v i)⟩
  have hslot : f.slot < cell.slots.size := by rw [hsl]; exact k2_hasslot (q4 j hjN)
  unfold u_lay at hlay
  rcases hfin with hf | ⟨hf, hinit, hown⟩
  · rw [if_neg (by rw [hf]; decide)] at hlay
    have h6 := u_store hfc hkC hkind hlay hi (cf.2.2.2.1 j hjN) hn hfit
    exact W.putK X.1 X.2.1 (f := f) ⟨X.2.2.2.1, hts _ hl, ⟨_, _, _, hi⟩, hst⟩ (by rw [q2]; exact h6) q1 q3 hslot rfl rfl hd fun H' e1 e2 e3 => kk H' _ _ (fin H' e1 e2 e3)
  · rw [if_pos hf] at hlay
    have h6 := u_fits hfc hkC hkind (Or.inr hlay) hi (cf.2.2.2.1 j hjN) hn hfit
    have hcf : m.cls = cf' := by
      obtain ⟨_, _, c', _, _, _, -, -, hf', -, -, -, hown2, -⟩ := Cond.laysFinal_spec hlay
      have e1 : c' = cf' := by have := hi.symm.trans hf'; simp at this; exact this.1.symm
      rw [hown] at hown2
      rw [← e1]; exact Option.some.inj (X.2.2.2.1.symm.trans hown2)
    exact W.putFinK X.1 X.2.1 X.2.2.2.1 (hts _ hl) hi hst hcf (X.2.2.2.2.2.2.2.1 hinit) (by rw [q2]; exact h6) q1 q3 hslot rfl rfl hd fun H' e1 e2 e3 => kk H' _ _ (fin H' e1 e2 e3)
theorem uI_mI {M : Mem} {k a k' a' : Nat} {x : Int32} : mI (uI M k a x) k' a' = if k' = k ∧ a' = a then x else mI M k' a' := rfl
theorem uF_mF {M : Mem} {k a k' a' : Nat} {x : UInt32} : mF (uF M k a x) k' a' = if k' = k ∧ a' = a then x else mF M k' a' := rfl
theorem uP_mP {M : Mem} {k a k' a' : Nat} {x : Option Nat} : mP (uP M k a x) k' a' = if k' = k ∧ a' = a then x else mP M k' a' := rfl

theorem G_putI {ci j idx : Nat} {C : String} {T : u_T} {N : Nat} {ty : Nat → FieldType} (cf : CF ci C T N ty) {ob : Option Nat} {x : Int32} {K : Mem → Option (α × Mem)} (hj : (kd ci)[j]? = some 0) (hty : ty j = .int) (hl : Jvm.Cond.fieldLink (mdO y) idx (T j).1 (T j).2.1 (T j).2.2.1 ∈ WS) (hfin : (T j).2.2.2 = false ∨ ((T j).2.2.2 = true ∧ (mdY y).name = "<init>" ∧ (T j).1 = mdO y)) (hd : decode (mdC y) pc = .ok (.putfield idx, 3)) (k : ∀ M1, G κ y cv (K M1) (pc + 3) lv st M1) : G κ y cv (pI M ci j ob x K) pc lv (.int x :: rv κ ob :: st) M := by
  cases ob with
  | none => exact G.none'
  | some a =>
    show G κ y cv (if (mS M a).1 = ci then K (uI M (32 * ci + j) a x) else none) pc lv _ M
    refine G.cond (fun hs => G.stepM (M' := uI M (32 * ci + j) a x) rfl rfl (k _) ?_) (fun _ => G.none')
    intro p l e R s m args below meth c H locs cells slots ls Q X hH hl0 kk
    have hlt : (mS M a).1 < 900 := by have := cf.1; have := hs; omega
    rw [rv_some, (hH.lt hlt).2]
    have hjl : j < (kd ci).length := (List.getElem?_eq_some_iff.mp hj).1
    have hjN : j < N := by rw [← cf.2.2.2.2.2]; exact hjl
    have hg : (kd ci).getD j 0 = 0 := by rw [List.getD_eq_getElem?_getD, hj]; rfl
    refine put_core (M' := uI M (32 * ci + j) a x) cf X hH hs hjN hl hfin (by rw [hty]; rfl) (by rw [hty]; rfl) rfl (fun _ => rfl) (fun k9 q h => ?_) (fun k9 q h => ?_) (fun k9 q h => ?_) ?_ hd kk
    all_goals first
      | rfl
      | (rw [uI_mI, if_neg (fun h9 => h h9.2)]; done)
      | (rw [uF_mF, if_neg (fun h9 => h h9.2)]; done)
      | (rw [uP_mP, if_neg (fun h9 => h h9.2)]; done)
      | skip
    refine fls_set hjl ?_ (fun i hi hil => ?_)
    · rw [hg]; simp [fv, uI_mI, uF_mF, uP_mP]
    · have hne : 32 * ci + i ≠ 32 * ci + j := by omega
      simp [fv, uI_mI, uF_mF, uP_mP, hne, hi, mI, mF, mP, uI, uF, uP]
theorem G_putZ {ci j idx : Nat} {C : String} {T : u_T} {N : Nat} {ty : Nat → FieldType} (cf : CF ci C T N ty) {ob : Option Nat} {x : Int32} {K : Mem → Option (α × Mem)} (hj : (kd ci)[j]? = some 0) (hty : ty j = .boolean) (hl : Jvm.Cond.fieldLink (mdO y) idx (T j).1 (T j).2.1 (T j).2.2.1 ∈ WS) (hfin : (T j).2.2.2 = false ∨ ((T j).2.2.2 = true ∧ (mdY y).name = "<init>" ∧ (T j).1 = mdO y)) (hd : decode (mdC y) pc = .ok (.putfield idx, 3)) (k : ∀ M1, G κ y cv (K M1) (pc + 3) lv st M1) : G κ y cv (pZ M ci j ob x K) pc lv (.int x :: rv κ ob :: st) M := by
  cases ob with
  | none => exact G.none'
  | some a =>
    show G κ y cv (if (mS M a).1 = ci ∧ (x = 0 ∨ x = 1) then K (uI M (32 * ci + j) a x) else none) pc lv _ M
    refine G.cond (fun hs => G.stepM (M' := uI M (32 * ci + j) a x) rfl rfl (k _) ?_) (fun _ => G.none')
    intro p l e R s m args below meth c H locs cells slots ls Q X hH hl0 kk
    have hlt : (mS M a).1 < 900 := by have := cf.1; have := hs.1; omega
    rw [rv_some, (hH.lt hlt).2]
    have hjl : j < (kd ci).length := (List.getElem?_eq_some_iff.mp hj).1
    have hjN : j < N := by rw [← cf.2.2.2.2.2]; exact hjl
    have hg : (kd ci).getD j 0 = 0 := by rw [List.getD_eq_getElem?_getD, hj]; rfl
    refine put_core (M' := uI M (32 * ci + j) a x) cf X hH hs.1 hjN hl hfin (by rw [hty]; rcases hs.2 with h | h <;> rw [h] <;> rfl) (by rw [hty]; rcases hs.2 with h | h <;> rw [h] <;> rfl) rfl (fun _ => rfl) (fun k9 q h => ?_) (fun k9 q h => ?_) (fun k9 q h => ?_) ?_ hd kk
    all_goals first
      | rfl
      | (rw [uI_mI, if_neg (fun h9 => h h9.2)]; done)
      | (rw [uF_mF, if_neg (fun h9 => h h9.2)]; done)
      | (rw [uP_mP, if_neg (fun h9 => h h9.2)]; done)
      | skip
    refine fls_set hjl ?_ (fun i hi hil => ?_)
    · rw [hg]; simp [fv, uI_mI, uF_mF, uP_mP]
    · have hne : 32 * ci + i ≠ 32 * ci + j := by omega
      simp [fv, uI_mI, uF_mF, uP_mP, hne, hi, mI, mF, mP, uI, uF, uP]
theorem G_putF {ci j idx : Nat} {C : String} {T : u_T} {N : Nat} {ty : Nat → FieldType} (cf : CF ci C T N ty) {ob : Option Nat} {x : UInt32} {K : Mem → Option (α × Mem)} (hj : (kd ci)[j]? = some 1) (hty : ty j = .float) (hl : Jvm.Cond.fieldLink (mdO y) idx (T j).1 (T j).2.1 (T j).2.2.1 ∈ WS) (hfin : (T j).2.2.2 = false ∨ ((T j).2.2.2 = true ∧ (mdY y).name = "<init>" ∧ (T j).1 = mdO y)) (hd : decode (mdC y) pc = .ok (.putfield idx, 3)) (k : ∀ M1, G κ y cv (K M1) (pc + 3) lv st M1) : G κ y cv (pF M ci j ob x K) pc lv (.float x :: rv κ ob :: st) M := by
  cases ob with
  | none => exact G.none'
  | some a =>
    show G κ y cv (if (mS M a).1 = ci then K (uF M (32 * ci + j) a x) else none) pc lv _ M
    refine G.cond (fun hs => G.stepM (M' := uF M (32 * ci + j) a x) rfl rfl (k _) ?_) (fun _ => G.none')
    intro p l e R s m args below meth c H locs cells slots ls Q X hH hl0 kk
    have hlt : (mS M a).1 < 900 := by have := cf.1; have := hs; omega
    rw [rv_some, (hH.lt hlt).2]
    have hjl : j < (kd ci).length := (List.getElem?_eq_some_iff.mp hj).1
    have hjN : j < N := by rw [← cf.2.2.2.2.2]; exact hjl
    have hg : (kd ci).getD j 0 = 1 := by rw [List.getD_eq_getElem?_getD, hj]; rfl
    refine put_core (M' := uF M (32 * ci + j) a x) cf X hH hs hjN hl hfin (by rw [hty]; rfl) (by rw [hty]; rfl) rfl (fun _ => rfl) (fun k9 q h => ?_) (fun k9 q h => ?_) (fun k9 q h => ?_) ?_ hd kk
    all_goals first
      | rfl
      | (rw [uI_mI, if_neg (fun h9 => h h9.2)]; done)
      | (rw [uF_mF, if_neg (fun h9 => h h9.2)]; done)
      | (rw [uP_mP, if_neg (fun h9 => h h9.2)]; done)
      | skip
    refine fls_set hjl ?_ (fun i hi hil => ?_)
    · rw [hg]; simp [fv, uI_mI, uF_mF, uP_mP]
    · have hne : 32 * ci + i ≠ 32 * ci + j := by omega
      simp [fv, uI_mI, uF_mF, uP_mP, hne, hi, mI, mF, mP, uI, uF, uP]
theorem G_putP {ci j idx : Nat} {C : String} {T : u_T} {N : Nat} {ty : Nat → FieldType} (cf : CF ci C T N ty) {ob : Option Nat} {x : Option Nat} {K : Mem → Option (α × Mem)} (hj : (kd ci)[j]? = some 2) (hty : (∃ C9, ty j = .object C9) ∨ ∃ t9, ty j = .array t9) (hl : Jvm.Cond.fieldLink (mdO y) idx (T j).1 (T j).2.1 (T j).2.2.1 ∈ WS) (hfin : (T j).2.2.2 = false ∨ ((T j).2.2.2 = true ∧ (mdY y).name = "<init>" ∧ (T j).1 = mdO y)) (hd : decode (mdC y) pc = .ok (.putfield idx, 3)) (k : ∀ M1, G κ y cv (K M1) (pc + 3) lv st M1) : G κ y cv (pP M ci j ob x K) pc lv (rv κ x :: rv κ ob :: st) M := by
  cases ob with
  | none => exact G.none'
  | some a =>
    show G κ y cv (if (mS M a).1 = ci then K (uP M (32 * ci + j) a x) else none) pc lv _ M
    refine G.cond (fun hs => G.stepM (M' := uP M (32 * ci + j) a x) rfl rfl (k _) ?_) (fun _ => G.none')
    intro p l e R s m args below meth c H locs cells slots ls Q X hH hl0 kk
    have hlt : (mS M a).1 < 900 := by have := cf.1; have := hs; omega
    rw [rv_some, (hH.lt hlt).2]
    have hjl : j < (kd ci).length := (List.getElem?_eq_some_iff.mp hj).1
    have hjN : j < N := by rw [← cf.2.2.2.2.2]; exact hjl
    have hg : (kd ci).getD j 0 = 2 := by rw [List.getD_eq_getElem?_getD, hj]; rfl
    refine put_core (M' := uP M (32 * ci + j) a x) cf X hH hs hjN hl hfin (by rcases hty with ⟨_, h⟩ | ⟨_, h⟩ <;> rw [h] <;> cases x <;> rfl) (by rcases hty with ⟨_, h⟩ | ⟨_, h⟩ <;> rw [h] <;> cases x <;> rfl) rfl (fun _ => rfl) (fun k9 q h => ?_) (fun k9 q h => ?_) (fun k9 q h => ?_) ?_ hd kk
    all_goals first
      | rfl
      | (rw [uI_mI, if_neg (fun h9 => h h9.2)]; done)
      | (rw [uF_mF, if_neg (fun h9 => h h9.2)]; done)
      | (rw [uP_mP, if_neg (fun h9 => h h9.2)]; done)
      | skip
    refine fls_set hjl ?_ (fun i hi hil => ?_)
    · rw [hg]; simp [fv, uI_mI, uF_mF, uP_mP]
    · have hne : 32 * ci + i ≠ 32 * ci + j := by omega
      simp [fv, uI_mI, uF_mF, uP_mP, hne, hi, mI, mF, mP, uI, uF, uP]
theorem G_iald {ob : Option Nat} {i : Int32} {K : Int32 → Option (α × Mem)} (hd : decode (mdC y) pc = .ok (.iaload, 1)) (k : ∀ x, G κ y cv (K x) (pc + 1) lv (.int x :: st) M) : G κ y cv (aI M 100 ob i K) pc lv (.int i :: rv κ ob :: st) M := by
  cases ob with
  | none => exact G.none'
  | some a =>
    show G κ y cv (if (mS M a).1 = 100 ∧ 0 ≤ i.toInt ∧ i.toInt < (mS M a).2 then K (mI M (1000 + i.toInt.toNat) a) else none) pc lv _ M
    refine G.cond (fun hs => G.step (k _) ?_) (fun _ => G.none')
    intro p l e R s m args below meth c H locs cells slots ls Q X hH hl0 kk
    have hlt : (mS M a).1 < 900 := by have := hs.1; omega
    have hat := (hH.2.2.1 a hlt).2
    rw [enc_arrI hs.1 (by simp)] at hat
    rw [rv_some, (hH.lt hlt).2]
    exact va_iald X.1 X.2.1 X.K (P1 hat) 0 0 rfl rfl (vp_in_iff2 hs.2.1 hs.2.2) hd (kk ls hl0)
theorem G_cald {ob : Option Nat} {i : Int32} {K : Int32 → Option (α × Mem)} (hd : decode (mdC y) pc = .ok (.caload, 1)) (k : ∀ x, G κ y cv (K x) (pc + 1) lv (.int x :: st) M) : G κ y cv (aI M 101 ob i K) pc lv (.int i :: rv κ ob :: st) M := by
  cases ob with
  | none => exact G.none'
  | some a =>
    show G κ y cv (if (mS M a).1 = 101 ∧ 0 ≤ i.toInt ∧ i.toInt < (mS M a).2 then K (mI M (1000 + i.toInt.toNat) a) else none) pc lv _ M
    refine G.cond (fun hs => G.step (k _) ?_) (fun _ => G.none')
    intro p l e R s m args below meth c H locs cells slots ls Q X hH hl0 kk
    have hlt : (mS M a).1 < 900 := by have := hs.1; omega
    have hat := (hH.2.2.1 a hlt).2
    rw [enc_arrI hs.1 (by simp)] at hat
    rw [rv_some, (hH.lt hlt).2]
    exact va_cald X.1 X.2.1 X.K (P1 hat) 0 1 rfl rfl (vp_in_iff2 hs.2.1 hs.2.2) hd (kk ls hl0)
theorem G_fald {ob : Option Nat} {i : Int32} {K : UInt32 → Option (α × Mem)} (hd : decode (mdC y) pc = .ok (.faload, 1)) (k : ∀ x, G κ y cv (K x) (pc + 1) lv (.float x :: st) M) : G κ y cv (aF M 102 ob i K) pc lv (.int i :: rv κ ob :: st) M := by
  cases ob with
  | none => exact G.none'
  | some a =>
    show G κ y cv (if (mS M a).1 = 102 ∧ 0 ≤ i.toInt ∧ i.toInt < (mS M a).2 then K (mF M (1000 + i.toInt.toNat) a) else none) pc lv _ M
    refine G.cond (fun hs => G.step (k _) ?_) (fun _ => G.none')
    intro p l e R s m args below meth c H locs cells slots ls Q X hH hl0 kk
    have hlt : (mS M a).1 < 900 := by have := hs.1; omega
    have hat := (hH.2.2.1 a hlt).2
    rw [enc_arrF hs.1 rfl] at hat
    rw [rv_some, (hH.lt hlt).2]
    exact va_fald X.1 X.2.1 X.K (P1 hat) 0 2 rfl rfl (vp_in_iff2 hs.2.1 hs.2.2) hd (kk ls hl0)
theorem G_aald {t tn : Nat} {C : String} (ht : tys κ = tys κ → (tys κ)[tn]? = some (kA κ t, .object C)) (ht1 : 110 ≤ t ∧ t < 900) {ob : Option Nat} {i : Int32} {K : Option Nat → Option (α × Mem)} (hd : decode (mdC y) pc = .ok (.aaload, 1)) (k : ∀ x, G κ y cv (K x) (pc + 1) lv (rv κ x :: st) M) : G κ y cv (aP M t ob i K) pc lv (.int i :: rv κ ob :: st) M := by
  cases ob with
  | none => exact G.none'
  | some a =>
    show G κ y cv (if (mS M a).1 = t ∧ 0 ≤ i.toInt ∧ i.toInt < (mS M a).2 then K (mP M (1000 + i.toInt.toNat) a) else none) pc lv _ M
    refine G.cond (fun hs => G.step (k _) ?_) (fun _ => G.none')
    intro p l e R s m args below meth c H locs cells slots ls Q X hH hl0 kk
    have hlt : (mS M a).1 < 900 := by have := hs.1; omega
    have hat := (hH.2.2.1 a hlt).2
    rw [enc_arrP hs.1 ht1.1] at hat
    rw [rv_some, (hH.lt hlt).2]
    exact va_aldq X.1 X.2.1 X.K (P1 hat) 0 tn rfl (ht rfl) (vp_in_iff2 hs.2.1 hs.2.2) hd (kk ls hl0)
theorem G_alen {t tn : Nat} {ty : FieldType} (ht : tys κ = tys κ → (tys κ)[tn]? = some (kA κ t, ty)) (ht1 : 100 ≤ t ∧ t < 900) {ob : Option Nat} {K : Int32 → Option (α × Mem)} (hd : decode (mdC y) pc = .ok (.arraylength, 1)) (k : ∀ x, G κ y cv (K x) (pc + 1) lv (.int x :: st) M) : G κ y cv (aL M t ob K) pc lv (rv κ ob :: st) M := by
  cases ob with
  | none => exact G.none'
  | some a =>
    show G κ y cv (if (mS M a).1 = t then K (Int32.ofNat (mS M a).2) else none) pc lv _ M
    refine G.cond (fun hs => G.step (k _) ?_) (fun _ => G.none')
    intro p l e R s m args below meth c H locs cells slots ls Q X hH hl0 kk
    have hlt : (mS M a).1 < 900 := by omega
    have hat := (hH.2.2.1 a hlt).2
    rw [rv_some, (hH.lt hlt).2]
    by_cases h1 : t < 102
    · rw [enc_arrI hs (by omega)] at hat
      exact va_alen X.1 X.2.1 X.K (P1 hat) 0 tn rfl (ht rfl) rfl hd (kk ls hl0)
    · by_cases h2 : t < 110
      · unfold enc at hat
        rw [if_neg (by omega), if_neg (by omega), if_pos (by omega), hs] at hat
        exact va_alen X.1 X.2.1 X.K (P1 hat) 0 tn rfl (ht rfl) rfl hd (kk ls hl0)
      · rw [enc_arrP hs (by omega)] at hat
        exact va_alen X.1 X.2.1 X.K (P1 hat) 0 tn rfl (ht rfl) rfl hd (kk ls hl0)
theorem G_iast {ob : Option Nat} {i : Int32} {x : Int32} {K : Mem → Option (α × Mem)} (hd : decode (mdC y) pc = .ok (.iastore, 1)) (k : ∀ M1, G κ y cv (K M1) (pc + 1) lv st M1) : G κ y cv (sI M 100 ob i x K) pc lv (.int x :: .int i :: rv κ ob :: st) M := by
  cases ob with
  | none => exact G.none'
  | some a =>
    show G κ y cv (if (mS M a).1 = 100 ∧ 0 ≤ i.toInt ∧ i.toInt < (mS M a).2 then K (uI M (1000 + i.toInt.toNat) a x) else none) pc lv _ M
    refine G.cond (fun hs => G.stepM (M' := uI M (1000 + i.toInt.toNat) a x) rfl rfl (k _) ?_) (fun _ => G.none')
    intro p l e R s m args below meth c H locs cells slots ls Q X hH hl0 kk
    have hlt : (mS M a).1 < 900 := by have := hs.1; omega
    have hat := (hH.2.2.1 a hlt).2
    rw [enc_arrI hs.1 (by simp)] at hat
    rw [rv_some, (hH.lt hlt).2]
    refine W.iast X.1 X.2.1 hat ((X.K.2 0 _ rfl).1 _ (fun j => .int (mI M (1000 + j) a))) (fun q => by cases q) (by show ¬ (i < 0 ∨ (arrV _ _ _).slots.size ≤ _); rw [arrV_size]; exact vp_in_iff2 hs.2.1 hs.2.2) rfl rfl hd fun H' e1 e2 e3 => kk H' a _ ?_
    refine hH.write (M' := uI M (1000 + i.toInt.toNat) a x) hlt rfl (fun _ => rfl) (fun k9 q h => ?_) (fun k9 q h => ?_) (fun k9 q h => ?_) ?_ e2 e3
    all_goals first
      | rfl
      | (rw [uI_mI, if_neg (fun h9 => h h9.2)]; done)
      | (rw [uF_mF, if_neg (fun h9 => h h9.2)]; done)
      | skip
    rw [enc_arrI (M := uI M (1000 + i.toInt.toNat) a x) hs.1 (by simp)]
    show H'[kB κ + a]? = some (vp_cell _ _)
    rw [e1]
    rw [vp_cell_i, vp_cell_i, arrV_store]
    congr 2
    funext q
    by_cases hq : q = i.toNatClampNeg
    · rw [hq]
      exact (if_pos rfl).trans (congrArg Value.int (if_pos ⟨rfl, rfl⟩)).symm
    · exact (if_neg hq).trans (congrArg Value.int (if_neg (fun h9 => hq (Nat.add_left_cancel h9.1)))).symm
theorem G_cast {ob : Option Nat} {i : Int32} {x : Int32} {K : Mem → Option (α × Mem)} (hd : decode (mdC y) pc = .ok (.castore, 1)) (k : ∀ M1, G κ y cv (K M1) (pc + 1) lv st M1) : G κ y cv (sI M 101 ob i (x.toUInt32.toUInt16.toUInt32.toInt32) K) pc lv (.int x :: .int i :: rv κ ob :: st) M := by
  cases ob with
  | none => exact G.none'
  | some a =>
    show G κ y cv (if (mS M a).1 = 101 ∧ 0 ≤ i.toInt ∧ i.toInt < (mS M a).2 then K (uI M (1000 + i.toInt.toNat) a (x.toUInt32.toUInt16.toUInt32.toInt32)) else none) pc lv _ M
    refine G.cond (fun hs => G.stepM (M' := uI M (1000 + i.toInt.toNat) a (x.toUInt32.toUInt16.toUInt32.toInt32)) rfl rfl (k _) ?_) (fun _ => G.none')
    intro p l e R s m args below meth c H locs cells slots ls Q X hH hl0 kk
    have hlt : (mS M a).1 < 900 := by have := hs.1; omega
    have hat := (hH.2.2.1 a hlt).2
    rw [enc_arrI hs.1 (by simp)] at hat
    rw [rv_some, (hH.lt hlt).2]
    refine W.cast X.1 X.2.1 hat ((X.K.2 1 _ rfl).1 _ (fun j => .int (mI M (1000 + j) a))) (fun q => by cases q) (by show ¬ (i < 0 ∨ (arrV _ _ _).slots.size ≤ _); rw [arrV_size]; exact vp_in_iff2 hs.2.1 hs.2.2) rfl rfl hd fun H' e1 e2 e3 => kk H' a _ ?_
    refine hH.write (M' := uI M (1000 + i.toInt.toNat) a (x.toUInt32.toUInt16.toUInt32.toInt32)) hlt rfl (fun _ => rfl) (fun k9 q h => ?_) (fun k9 q h => ?_) (fun k9 q h => ?_) ?_ e2 e3
    all_goals first
      | rfl
      | (rw [uI_mI, if_neg (fun h9 => h h9.2)]; done)
      | (rw [uF_mF, if_neg (fun h9 => h h9.2)]; done)
      | skip
    rw [enc_arrI (M := uI M (1000 + i.toInt.toNat) a (x.toUInt32.toUInt16.toUInt32.toInt32)) hs.1 (by simp)]
    show H'[kB κ + a]? = some (vp_cell _ _)
    rw [e1]
    rw [vp_cell_i, vp_cell_i, arrV_store]
    congr 2
    funext q
    by_cases hq : q = i.toNatClampNeg
    · rw [hq]
      exact (if_pos rfl).trans (congrArg Value.int (if_pos ⟨rfl, rfl⟩)).symm
    · exact (if_neg hq).trans (congrArg Value.int (if_neg (fun h9 => hq (Nat.add_left_cancel h9.1)))).symm
theorem G_fast {ob : Option Nat} {i : Int32} {x : UInt32} {K : Mem → Option (α × Mem)} (hd : decode (mdC y) pc = .ok (.fastore, 1)) (k : ∀ M1, G κ y cv (K M1) (pc + 1) lv st M1) : G κ y cv (sF M 102 ob i x K) pc lv (.float x :: .int i :: rv κ ob :: st) M := by
  cases ob with
  | none => exact G.none'
  | some a =>
    show G κ y cv (if (mS M a).1 = 102 ∧ 0 ≤ i.toInt ∧ i.toInt < (mS M a).2 then K (uF M (1000 + i.toInt.toNat) a x) else none) pc lv _ M
    refine G.cond (fun hs => G.stepM (M' := uF M (1000 + i.toInt.toNat) a x) rfl rfl (k _) ?_) (fun _ => G.none')
    intro p l e R s m args below meth c H locs cells slots ls Q X hH hl0 kk
    have hlt : (mS M a).1 < 900 := by have := hs.1; omega
    have hat := (hH.2.2.1 a hlt).2
    rw [enc_arrF hs.1 rfl] at hat
    rw [rv_some, (hH.lt hlt).2]
    refine W.fast X.1 X.2.1 hat ((X.K.2 2 _ rfl).1 _ (fun j => .float (mF M (1000 + j) a))) (fun q => by cases q) (by show ¬ (i < 0 ∨ (arrV _ _ _).slots.size ≤ _); rw [arrV_size]; exact vp_in_iff2 hs.2.1 hs.2.2) rfl rfl hd fun H' e1 e2 e3 => kk H' a _ ?_
    refine hH.write (M' := uF M (1000 + i.toInt.toNat) a x) hlt rfl (fun _ => rfl) (fun k9 q h => ?_) (fun k9 q h => ?_) (fun k9 q h => ?_) ?_ e2 e3
    all_goals first
      | rfl
      | (rw [uI_mI, if_neg (fun h9 => h h9.2)]; done)
      | (rw [uF_mF, if_neg (fun h9 => h h9.2)]; done)
      | skip
    rw [enc_arrF (M := uF M (1000 + i.toInt.toNat) a x) hs.1 rfl]
    show H'[kB κ + a]? = some (vp_cell _ _)
    rw [e1]
    rw [vp_cell_f, vp_cell_f, arrV_store]
    congr 2
    funext q
    by_cases hq : q = i.toNatClampNeg
    · rw [hq]
      exact (if_pos rfl).trans (congrArg Value.float (if_pos ⟨rfl, rfl⟩)).symm
    · exact (if_neg hq).trans (congrArg Value.float (if_neg (fun h9 => hq (Nat.add_left_cancel h9.1)))).symm
theorem G_aast {ci tn : Nat} {C : String} {T : u_T} {N : Nat} {ty : Nat → FieldType} (cf : CF ci C T N ty) (ht : tys κ = tys κ → (tys κ)[tn]? = some (kA κ (110 + ci), .object C)) {ob : Option Nat} {i : Int32} {x : Option Nat} {K : Mem → Option (α × Mem)} (hd : decode (mdC y) pc = .ok (.aastore, 1)) (k : ∀ M1, G κ y cv (K M1) (pc + 1) lv st M1) : G κ y cv (sP M ci ob i x K) pc lv (rv κ x :: .int i :: rv κ ob :: st) M := by
  cases ob with
  | none => exact G.none'
  | some a =>
    unfold sP
    show G κ y cv (if _ then K (uP M (1000 + i.toInt.toNat) a x) else none) pc lv _ M
    refine G.cond (fun hs => ?_) (fun _ => G.none')
    obtain ⟨hs1, hs2, hs3, v, rfl, hv⟩ := hs
    refine G.stepM (M' := uP M (1000 + i.toInt.toNat) a (some v)) rfl rfl (k _) ?_
    intro p l e R s m args below meth c H locs cells slots ls Q X hH hl0 kk
    have hlt : (mS M a).1 < 900 := by have := cf.1; omega
    have hltv : (mS M v).1 < 900 := by have := cf.1; omega
    have hat := (hH.2.2.1 a hlt).2
    rw [enc_arrP hs1 (by omega)] at hat
    have hatv := (hH.2.2.1 v hltv).2
    rw [enc_obj hv cf.1] at hatv
    obtain ⟨r', hr', cellV, g1, g2, g3, -⟩ := hatv
    have hr : r' = (C, T, N) := Option.some.inj (hr'.symm.trans cf.2.1)
    subst hr
    have hcls := (X.K.1 ci _ cf.2.1).2
    obtain ⟨kA9, comp, k1, k2, k3, -⟩ := (X.K.2 tn _ (ht rfl)).2
    have hcomp : comp = (kD κ).1 ci := Option.some.inj (k3.symm.trans hcls.1)
    subst hcomp
    obtain ⟨kC, hkC, -⟩ := hcls.2
    have hil : i.toNatClampNeg < (mS M a).2 := by have : i.toNatClampNeg = i.toInt.toNat := rfl; omega
    have h0 : ¬ i < 0 := fun q => by rw [Int32.lt_iff_toInt_lt] at q; simp at q; omega
    rw [rv_some, rv_some, (hH.lt hlt).2, (hH.lt hltv).2]
    refine W.aast X.1 X.2.1 hat (fun q h => by cases h) (fun h => by cases h) k1 k2 rfl hkC ⟨h0, by show _ < (arrV _ _ _).slots.size; rw [arrV_size]; exact hil⟩ g1 (fun q h => by rw [g3] at h; cases h) (by rw [g2]; exact hkC) (by rw [g2]; exact va_assign hcls) rfl rfl hd fun H' e1 e2 e3 => kk H' a _ ?_
    refine hH.write (M' := uP M (1000 + i.toInt.toNat) a (some v)) hlt rfl (fun _ => rfl) (fun k9 q h => rfl) (fun k9 q h => rfl) (fun k9 q h => ?_) ?_ e2 e3
    · rw [uP_mP, if_neg (fun h9 => h h9.2)]
    rw [enc_arrP (M := uP M (1000 + i.toInt.toNat) a (some v)) hs1 (by omega)]
    show H'[kB κ + a]? = some (vp_cell _ _)
    rw [e1]
    rw [vp_cell_q, vp_cell_q, arrV_store]
    congr 2
    funext q
    by_cases hq : q = i.toNatClampNeg
    · rw [hq]
      refine (if_pos rfl).trans ?_
      have e8 : mP (uP M (1000 + i.toInt.toNat) a (some v)) (1000 + i.toNatClampNeg) a = some v := if_pos ⟨rfl, rfl⟩
      rw [e8]
      show Value.ref (kB κ + v) = Value.ref (kad κ v)
      rw [(hH.lt hltv).2]
    · refine (if_neg hq).trans ?_
      have e8 : mP (uP M (1000 + i.toInt.toNat) a (some v)) (1000 + q) a = mP M (1000 + q) a := if_neg (fun h9 => hq (Nat.add_left_cancel h9.1))
      rw [e8]
theorem fls_new {κ : Cfg} {M : Mem} {ci sl : Nat} {ty : Nat → FieldType} {N : Nat} (hk : (kd ci).length = N) (hd : ∀ j, j < N → ((kd ci).getD j 0 = 0 → defaultValue (ty j) = .int 0) ∧ ((kd ci).getD j 0 = 1 → defaultValue (ty j) = .float 0) ∧ ((kd ci).getD j 0 = 2 → defaultValue (ty j) = .null) ∧ (kd ci).getD j 0 ≤ 2) : ∀ j, j < N → defaultValue (ty j) = vp_V (fls κ (nw M (ci, 0) sl) ci (mN M)) j := by
  intro j hj
  have h1 : vp_V (fls κ (nw M (ci, 0) sl) ci (mN M)) j = fv κ (nw M (ci, 0) sl) ((kd ci).getD j 0) (32 * ci + j) (mN M) := by
    simp only [vp_V, fls, List.getD_eq_getElem?_getD, List.getElem?_map, List.getElem?_range (show j < (kd ci).length by omega), Option.map_some, Option.getD_some]
  rw [h1]
  obtain ⟨a0, a1, a2, a3⟩ := hd j hj
  have eI : mI (nw M (ci, 0) sl) (32 * ci + j) (mN M) = 0 := if_pos rfl
  have eF : mF (nw M (ci, 0) sl) (32 * ci + j) (mN M) = 0 := if_pos rfl
  have eP : mP (nw M (ci, 0) sl) (32 * ci + j) (mN M) = none := if_pos rfl
  unfold fv
  rw [eI, eF, eP]
  by_cases h0 : (kd ci).getD j 0 = 0
  · rw [if_pos h0]; exact a0 h0
  · rw [if_neg h0]
    by_cases h1 : (kd ci).getD j 0 = 1
    · rw [if_pos h1]; exact a1 h1
    · rw [if_neg h1]; exact a2 (by omega)
/-- the defaults of a class's fields are those of its kinds -/
def CD (ci N : Nat) (ty : Nat → FieldType) : Prop := ∀ j, j < N → ((kd ci).getD j 0 = 0 → defaultValue (ty j) = .int 0) ∧ ((kd ci).getD j 0 = 1 → defaultValue (ty j) = .float 0) ∧ ((kd ci).getD j 0 = 2 → defaultValue (ty j) = .null) ∧ (kd ci).getD j 0 ≤ 2
theorem G_new {ci idx : Nat} {C : String} {T : u_T} {N : Nat} {ty : Nat → FieldType} (cf : CF ci C T N ty) (cd : CD ci N ty) {K : Option Nat → Mem → Option (α × Mem)} (h1 : Jvm.Cond.classLink (mdO y) idx C ∈ WS) (h2 : Jvm.Cond.instantiable C N ∈ WS) (h3 : Jvm.Cond.initialized C ∈ WS) (hd : decode (mdC y) pc = .ok (.new idx, 3)) (k : ∀ q M1, G κ y cv (K q M1) (pc + 3) lv (rv κ q :: st) M1) : G κ y cv (nO M ci N K) pc lv st M := by
  unfold nO
  refine G.cond (fun hs => G.stepN (M' := nw M (ci, 0) N) (sl := N) rfl rfl (k _ _) ?_) (fun _ => G.none')
  intro p l e R s m args below meth c H locs cells slots ls Q X hH hl0 hc hs9 kk
  have hKn := X.K.1 ci _ cf.2.1
  refine W.newcK X.1 X.2.1 X.2.2.2.1 (X.w _ h1) (X.w _ h2) (X.w _ h3) rfl hd hc hs9 hKn.2.1 rfl fun H1 kC hkC e1 z1 o1 => ?_
  have e9 : kad κ (mN M) = H.size := by rw [kad_lt (by omega), hH.1]
  rw [rv_some, e9] at kk
  refine kk H1 (hH.push hs (by have := cf.1; show ci < 900; omega) ?_ z1 o1)
  rw [enc_obj (show (mS (nw M (ci, 0) N) (mN M)).1 = ci by show (if mN M = mN M then (ci, 0) else _).1 = ci; rw [if_pos rfl]) cf.1]
  refine ⟨_, cf.2.1, ?_⟩
  rw [← hH.1]
  exact (u_born ty X.w cf.2.2.1 hKn hkC e1 cf.2.2.2.1).to (fls_new cf.2.2.2.2.2 cd)
theorem ra_uniq {U : State} {cA cB : ClassId} {t : FieldType} (h : va_RA U cA t) (h2 : U.vm.findClass ("[" ++ t.toString) = some cB) : cA = cB := by
  have : U.vm.findClass ("[" ++ t.toString) = some cA := by
    cases t with
    | object C => obtain ⟨_, _, _, _, _, h4⟩ := h; exact h4
    | _ => exact h
  rw [this] at h2
  exact Option.some.inj h2
theorem G_newq {ci idx tn : Nat} {C : String} {T : u_T} {N : Nat} {ty : Nat → FieldType} (cf : CF ci C T N ty) (ht : tys κ = tys κ → (tys κ)[tn]? = some (kA κ (110 + ci), .object C)) (hao : C ∈ [RX0, RX2, RX3, RX5, RX8, RX9]) {n : Int32} {K : Option Nat → Mem → Option (α × Mem)} (h1 : Jvm.Cond.classLink (mdO y) idx C ∈ WS) (hd : decode (mdC y) pc = .ok (.anewarray idx, 3)) (k : ∀ q M1, G κ y cv (K q M1) (pc + 3) lv (rv κ q :: st) M1) : G κ y cv (nA M (110 + ci) n K) pc lv (.int n :: st) M := by
  unfold nA
  refine G.cond (fun hs => G.stepN (M' := nw M (110 + ci, n.toInt.toNat) n.toInt.toNat) (sl := n.toInt.toNat) rfl rfl (k _ _) ?_) (fun _ => G.none')
  intro p l e R s m args below meth c H locs cells slots ls Q X hH hl0 hc hs9 kk
  have e0 : n.toNatClampNeg = n.toInt.toNat := rfl
  have hn0 : ¬ n < 0 := fun q => by rw [Int32.lt_iff_toInt_lt] at q; simp at q; omega
  refine W.anew X.1 X.2.1 X.2.2.2.1 (X.w _ h1) (va_AO.use (X.2.2.2.2.2.2.2.2.1.2.2.1 C hao)) rfl hd rfl hn0 (by omega) hc hs9 fun cA kA9 comp f1 f2 f3 f4 => ?_
  have e9 : kad κ (mN M) = H.size := by rw [kad_lt (by omega), hH.1]
  rw [rv_some, e9] at kk
  have hcA := ra_uniq (X.K.2 tn _ (ht rfl)).2 f1
  refine kk _ (hH.push hs.1 (by have := cf.1; show 110 + ci < 900; omega) ?_ (Array.size_push ..) (fun q hq => by rw [Array.getElem?_push, if_neg (Nat.ne_of_lt hq)]))
  have es : (mS (nw M (110 + ci, n.toInt.toNat) n.toInt.toNat) (mN M)) = (110 + ci, n.toInt.toNat) := by show (if mN M = mN M then _ else _) = _; rw [if_pos rfl]
  rw [enc_arrP (by rw [es]) (by omega), es]
  show (H.push _)[kB κ + mN M]? = some (vp_cell _ _)
  rw [← hH.1, Array.getElem?_push_size, arrV_new, vp_cell_q, hcA, e0]
  congr 2
  funext j
  have : mP (nw M (110 + ci, n.toInt.toNat) n.toInt.toNat) (1000 + j) (mN M) = none := if_pos rfl
  rw [this]; rfl
theorem G_newa {at9 : ArrayType} {t : Nat} (ht : tys κ = tys κ → (tys κ)[t - 100]? = some (kA κ t, newarray.typeOf at9)) (hao : Jvm.Cond.arrayClass (newarray.typeOf at9) ∈ WS) (ht1 : (t = 100 ∧ at9 = .int) ∨ (t = 101 ∧ at9 = .char) ∨ (t = 102 ∧ at9 = .float)) {n : Int32} {K : Option Nat → Mem → Option (α × Mem)} (hd : decode (mdC y) pc = .ok (.newarray at9, 2)) (k : ∀ q M1, G κ y cv (K q M1) (pc + 2) lv (rv κ q :: st) M1) : G κ y cv (nA M t n K) pc lv (.int n :: st) M := by
  unfold nA
  refine G.cond (fun hs => G.stepN (M' := nw M (t, n.toInt.toNat) n.toInt.toNat) (sl := n.toInt.toNat) rfl rfl (k _ _) ?_) (fun _ => G.none')
  intro p l e R s m args below meth c H locs cells slots ls Q X hH hl0 hc hs9 kk
  have e0 : n.toNatClampNeg = n.toInt.toNat := rfl
  have hn0 : ¬ n < 0 := fun q => by rw [Int32.lt_iff_toInt_lt] at q; simp at q; omega
  have hb : n.toInt.toNat * componentBytes (newarray.typeOf at9) ≤ 536870912 := by
    rcases ht1 with ⟨-, rfl⟩ | ⟨-, rfl⟩ | ⟨-, rfl⟩ <;> simp [newarray.typeOf, componentBytes] <;> omega
  refine va_newaK X.1 X.2.1 (X.w _ hao) rfl hd rfl hn0 e0 hb hc hs9 rfl fun H' cA g1 g2 g3 g4 g5 => ?_
  have e9 : kad κ (mN M) = H.size := by rw [kad_lt (by omega), hH.1]
  rw [rv_some, e9] at kk
  have hcA := ra_uniq (X.K.2 (t - 100) _ (ht rfl)).2 g5
  refine kk H' (hH.push hs.1 (by show t < 900; omega) ?_ g2 g3)
  have es : (mS (nw M (t, n.toInt.toNat) n.toInt.toNat) (mN M)) = (t, n.toInt.toNat) := by show (if mN M = mN M then _ else _) = _; rw [if_pos rfl]
  have eI : ∀ j, mI (nw M (t, n.toInt.toNat) n.toInt.toNat) (1000 + j) (mN M) = 0 := fun _ => if_pos rfl
  have eF : ∀ j, mF (nw M (t, n.toInt.toNat) n.toInt.toNat) (1000 + j) (mN M) = 0 := fun _ => if_pos rfl
  rcases ht1 with ⟨rfl, rfl⟩ | ⟨rfl, rfl⟩ | ⟨rfl, rfl⟩
  · rw [enc_arrI (by rw [es]) (by simp), es]
    show H'[kB κ + mN M]? = some (vp_cell _ _)
    rw [← hH.1, g1, vp_cell_i, hcA]
    simp only [eI]; rfl
  · rw [enc_arrI (by rw [es]) (by simp), es]
    show H'[kB κ + mN M]? = some (vp_cell _ _)
    rw [← hH.1, g1, vp_cell_i, hcA]
    simp only [eI]; rfl
  · rw [enc_arrF (by rw [es]) rfl, es]
    show H'[kB κ + mN M]? = some (vp_cell _ _)
    rw [← hH.1, g1, vp_cell_f, hcA]
    simp only [eF]; rfl
end MEMRULES
