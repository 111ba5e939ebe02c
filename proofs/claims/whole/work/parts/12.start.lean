/-! THE CLAIM OUT OF ONE WALK OF THE LAW'S BODY. Your part is whole_start (and what it stands on); all else here is the same for every law, but numbers. -/
def R_law : String := "ParkingTariffLaw"
def lw_P (b : Addr) (xs : List Int32) (args : Array Value) (s : State) : Prop := args = #[.ref b] ∧ s.IntsAt b xs ∧ xs.length ≤ 2560 ∧ (Jvm.Cond.and given_1 narrow_1).before args s = true
/-- what a walk over the start with the record d0 says of its end, said of the start itself -/
theorem lw_closed {s t : State} {o : Outcome} {d0 : Drawn} {L : List Loc} {k n : Nat} (hd0 : s.drawn.sameBut d0 lw_cs) (hv : ∃ v, o = .returned v) (hW : (s.setDrawn d0).WarmedH t.vm) (hs : (s.setDrawn d0).sameButNew ({ t with vm := s.vm } : State) L k n) : State.butDraws s t lw_cs (fun t1 => Framed s o t1 L k n) := by
  have h2 : t.drawn = d0 := congrArg State.drawn hs.1
  refine ⟨⟨hv, hW, State.sameButNew.setDrawn hs s.drawn⟩, ?_, by decide⟩
  rw [h2]
  exact hd0
def lw_Q (_ : Array Value) (s : State) (o : Outcome) (t : State) : Prop := o = .returned (some (.int 1)) ∧ State.butDraws s t lw_cs (fun t1 => Framed s o t1 [] 600000 7302250)
def lw_Z (below : List Frame) (a : Array Value) (s : State) : State → Prop := fun t => ∃ o, t.status = .running ∧ Ended t below o ∧ lw_Q a s o t
/-- the law's own end, with 1 on the stack, nothing written that was there before, its room as the claim has it; d0: the record of draws at this point (at the entry s.drawn: begin with 'refine W.base ?_' and 'have hd0 := Drawn.sameBut.refl s.drawn lw_cs') -/
theorem lw_ret {p : Program} {l : Launch} {e : Env} {s : State} {m : MethodId} {below : List Frame} {meth : Method} {c : Code} {b : Nat} {d0 : Drawn} (hd0 : s.drawn.sameBut d0 lw_cs) (hx : p.tables.exec = Jvm.exec) (hb : c.code = code) (hr : meth.sig.returnType = ret) (hlocks : meth.locks = false) {pc : Nat} {H : Heap} {ls : Array Slot} (hdg : decode code pc = .ok (.ireturn, 1)) : W p l e room_1 (s.setDrawn d0) m #[Value.ref b] below meth c H [] 600000 7302250 (lw_Z below #[Value.ref b] s) (F0 m pc ls [.int 1]) := by
  intro T hT X
  obtain ⟨fs, hret, hrun, hended, hW, hframe⟩ := X.leave (v := some (.int 1)) (hlocks := hlocks) (fun h => by rw [hr] at h; cases h)
  have hmeth' : T.vm.method? m = some meth := X.method'
  refine ⟨T.setFrames fs, ?_, .returned (some (.int 1)), hrun, hended, rfl, lw_closed hd0 ⟨_, rfl⟩ hW hframe⟩
  jvm_step X.here [X.here.top, hx, hb, hdg, hmeth', hr, ret, narrow_b1]
  (try refine ⟨rfl, ?_⟩); (try refine ⟨rfl, ?_⟩)
  first | (intro acts; rw [hret _ acts rfl rfl rfl]) | rw [hret _ _ rfl rfl rfl]
  exact Steps.refl _
/-- what holds at the law's entry: the machine, the code, the tables' words (any of lw_tbl by 'hts w (by decide +kernel)'), the script of L ints xs at the cell b, what the Statement gives of the start (any of its parts by flat_of_before) -/
def lw_At (p : Program) (s : State) (m : MethodId) (meth : Method) (c : Code) (b L : Nat) (xs : Nat → Int32) : Prop :=
  p.tables.exec = Jvm.exec ∧ c.code = code ∧ meth.sig.returnType = ret ∧ c.maxLocals = 4 ∧ s.vm.findClass R_law = some m.cls ∧ (∀ w ∈ lw_tbl, w.before #[Value.ref b] s = true) ∧ va_X b L xs s s.heap ∧ b < s.heap.size ∧ meth.locks = false ∧ (Jvm.Cond.and given_1 narrow_1).before #[Value.ref b] s = true
-- ===== YOUR PART BEGINS =====
theorem tb_at {w : Cond} (i : Nat) (h : tables_1[i]? = some w) : w ∈ lw_tbl := List.mem_append_right _ (List.mem_of_getElem? h)
theorem nest_all : ∀ q ∈ nestL, Cond.methodLinkNest q.1 q.2.1 q.2.2 RX10 ∈ lw_tbl := by
  intro q hq
  simp only [nestL, List.mem_cons, List.not_mem_nil, or_false] at hq
  rcases hq with rfl | rfl | rfl | rfl | rfl | rfl | rfl | rfl | rfl | rfl | rfl | rfl | rfl
  · exact tb_at 109 (by decide +kernel)
  · exact tb_at 128 (by decide +kernel)
  · exact tb_at 144 (by decide +kernel)
  · exact tb_at 167 (by decide +kernel)
  · exact tb_at 240 (by decide +kernel)
  · exact tb_at 282 (by decide +kernel)
  · exact tb_at 338 (by decide +kernel)
  · exact tb_at 437 (by decide +kernel)
  · exact tb_at 454 (by decide +kernel)
  · exact tb_at 623 (by decide +kernel)
  · exact tb_at 744 (by decide +kernel)
  · exact tb_at 825 (by decide +kernel)
  · exact tb_at 872 (by decide +kernel)
theorem ao_all : ∀ C ∈ [RX0, RX2, RX3, RX5, RX8, RX9], Cond.arrayOver (.object C) ∈ lw_tbl := by
  intro C hC
  simp only [List.mem_cons, List.not_mem_nil, or_false] at hC
  rcases hC with rfl | rfl | rfl | rfl | rfl | rfl
  · exact tb_at 49 (by decide +kernel)
  · exact tb_at 38 (by decide +kernel)
  · exact tb_at 40 (by decide +kernel)
  · exact tb_at 34 (by decide +kernel)
  · exact tb_at 42 (by decide +kernel)
  · exact tb_at 36 (by decide +kernel)
def tmJ (i : Nat) : Term := Term.string RX6 ([57, 70, 74, 79, 84].getD i 0)
theorem tj_1 : ∀ i : Nat, i < 5 → Cond.exactly (tmJ i) "java/lang/String" ∈ flatC (Jvm.Cond.and given_1 narrow_1) := by decide +kernel
theorem tj_2 : ∀ i : Nat, i < 5 → Cond.eq (.field (tmJ i) "java/lang/String" "coder" "B") (.int 0) ∈ flatC (Jvm.Cond.and given_1 narrow_1) := by decide +kernel
theorem tj_3 : ∀ i : Nat, i < 5 → Cond.arrayOf (.field (tmJ i) "java/lang/String" "value" "[B") .byte ∈ flatC (Jvm.Cond.and given_1 narrow_1) := by decide +kernel
theorem tj_4 : ∀ i : Nat, i < 5 → Cond.eq (.length (.field (tmJ i) "java/lang/String" "value" "[B")) (.int (Int32.ofNat (lenJ.getD i 0))) ∈ flatC (Jvm.Cond.and given_1 narrow_1) := by decide +kernel
theorem tj_5 : ∀ i : Nat, i < 5 → ∀ j : Nat, j < lenJ.getD i 0 → Cond.eq (.elem (.field (tmJ i) "java/lang/String" "value" "[B") (.int (Int32.ofNat j))) (.int ((bytJ.getD i []).getD j 0)) ∈ flatC (Jvm.Cond.and given_1 narrow_1) := by decide +kernel
theorem tj_6 : ∀ i : Nat, i < 5 → ∀ j : Nat, j < 5 → i ≠ j → Cond.not (Cond.eq (tmJ i) (tmJ j)) ∈ flatC (Jvm.Cond.and given_1 narrow_1) ∨ Cond.not (Cond.eq (tmJ j) (tmJ i)) ∈ flatC (Jvm.Cond.and given_1 narrow_1) := by decide +kernel
theorem tj_7 : Cond.eq (.static "java/lang/String" "COMPACT_STRINGS" "Z") (.int 1) ∈ flatC (Jvm.Cond.and given_1 narrow_1) := by decide +kernel
theorem tj_8 : Cond.isRef (.static "jdk/internal/util/Preconditions" "SIOOBE_FORMATTER" "Ljava/util/function/BiFunction;") ∈ flatC (Jvm.Cond.and given_1 narrow_1) := by decide +kernel
theorem ls_1 : Jvm.Cond.laysStatic "java/lang/String" "COMPACT_STRINGS" "Z" ∈ lw_tbl := tb_at 370 (by decide +kernel)
theorem ls_2 : Jvm.Cond.laysStatic "jdk/internal/util/Preconditions" "SIOOBE_FORMATTER" "Ljava/util/function/BiFunction;" ∈ lw_tbl := tb_at 386 (by decide +kernel)
theorem sr_0 : Jvm.Cond.stringRef "ParkingTariff$PlanText" 57 "free" ∈ lw_tbl := tb_at 356 (by decide +kernel)
theorem sr_1 : Jvm.Cond.stringRef "ParkingTariff$PlanText" 70 "cap" ∈ lw_tbl := tb_at 438 (by decide +kernel)
theorem sr_2 : Jvm.Cond.stringRef "ParkingTariff$PlanText" 74 "lost" ∈ lw_tbl := tb_at 439 (by decide +kernel)
theorem sr_3 : Jvm.Cond.stringRef "ParkingTariff$PlanText" 79 "days" ∈ lw_tbl := tb_at 440 (by decide +kernel)
theorem sr_4 : Jvm.Cond.stringRef "ParkingTariff$PlanText" 84 "band" ∈ lw_tbl := tb_at 441 (by decide +kernel)
theorem arr_of {s : State} {cA : ClassId} {k : Class} {comp : ClassId} {ty : FieldType} (h2 : s.vm.classes[cA]? = some k) (h3 : k.kind = .array comp ty) : ArrOfT s cA ty := fun n z => ⟨(fun k h => (by cases h)), k, h2, comp, h3⟩
set_option maxHeartbeats 4000000 in
set_option maxRecDepth 100000 in
/-- the law, from its entry -/
theorem whole_start {p : Program} {e : Env} {s : State} {m : MethodId} {below : List Frame} {meth : Method} {c : Code} (l : Launch) (hflags : l.flags = flags0) {b L : Nat} {xs : Nat → Int32} (hL : L ≤ 2560) (C0 : lw_At p s m meth c b L xs) : W p l e room_1 s m #[Value.ref b] below meth c s.heap [] 0 0 (lw_Z below #[Value.ref b] s) (entryFrame m ([Value.ref b] : List Value).toArray 4) := by
  obtain ⟨hx, hb, hr, hml, hown, hts, hX, hbl, hlocks, hgv⟩ := C0
  have hws : ∀ w ∈ WS, w.before #[Value.ref b] s = true := fun w h => hts w (List.mem_filter.mp h).1
  have hs := flat_of_before _ hgv
  have hA : ∀ a : Nat, a < s.heap.size → ¬ (fun q : Nat => s.heap.size ≤ q) a := fun a h => Nat.not_le.mpr h
  obtain ⟨c0, i0, k0⟩ := u_known (C := RX0) (T := TX0) (N := 4) (n := 4) hws uwX0 (hws _ w_50)
  obtain ⟨c1, i1, k1⟩ := u_known (C := RX1) (T := TX1) (N := 8) (n := 8) hws uwX1 (hws _ w_28)
  obtain ⟨c2, i2, k2⟩ := u_known (C := RX2) (T := TX2) (N := 3) (n := 3) hws uwX2 (hws _ w_127)
  obtain ⟨c3, i3, k3⟩ := u_known (C := RX3) (T := TX3) (N := 5) (n := 5) hws uwX3 (hws _ w_143)
  obtain ⟨c4, i4, k4⟩ := u_known (C := RX4) (T := TX4) (N := 6) (n := 6) hws uwX4 (hws _ w_504)
  obtain ⟨c5, i5, k5⟩ := u_known (C := RX5) (T := TX5) (N := 6) (n := 6) hws uwX5 (hws _ w_43)
  obtain ⟨c6, i6, k6⟩ := u_known (C := RX6) (T := TX6) (N := 9) (n := 9) hws uwX6 (hws _ w_239)
  obtain ⟨c7, i7, k7⟩ := u_known (C := RX7) (T := TX7) (N := 3) (n := 3) hws uwX7 (hws _ w_281)
  obtain ⟨c8, i8, k8⟩ := u_known (C := RX8) (T := TX8) (N := 9) (n := 9) hws uwX8 (hws _ w_166)
  obtain ⟨c9, i9, k9⟩ := u_known (C := RX9) (T := TX9) (N := 3) (n := 3) hws uwX9 (hws _ w_108)
  obtain ⟨c10, i10, k10⟩ := u_known (C := RX10) (T := TX10) (N := 5) (n := 5) hws uwX10 (hws _ w_20)
  obtain ⟨c11, i11, k11⟩ := u_known (C := RX11) (T := TX11) (N := 21) (n := 21) hws uwX11 (hws _ w_908)
  obtain ⟨dC, dI, hKc⟩ : ∃ (dC : Nat → ClassId) (dI : Nat → Nat → Nat), ∀ (k : Nat) (q : vw_C), vwCl[k]? = some q → u_Kn s q.1 q.2.1 q.2.2 (dC k) (dI k) := by
    refine ⟨fun k => match k with | 0 => c0 | 1 => c1 | 2 => c2 | 3 => c3 | 4 => c4 | 5 => c5 | 6 => c6 | 7 => c7 | 8 => c8 | 9 => c9 | 10 => c10 | _ => c11, fun k => match k with | 0 => i0 | 1 => i1 | 2 => i2 | 3 => i3 | 4 => i4 | 5 => i5 | 6 => i6 | 7 => i7 | 8 => i8 | 9 => i9 | 10 => i10 | _ => i11, ?_⟩
    intro k q hq
    match k, hq with
    | 0, hq => cases hq; exact k0
    | 1, hq => cases hq; exact k1
    | 2, hq => cases hq; exact k2
    | 3, hq => cases hq; exact k3
    | 4, hq => cases hq; exact k4
    | 5, hq => cases hq; exact k5
    | 6, hq => cases hq; exact k6
    | 7, hq => cases hq; exact k7
    | 8, hq => cases hq; exact k8
    | 9, hq => cases hq; exact k9
    | 10, hq => cases hq; exact k10
    | 11, hq => cases hq; exact k11
    | k + 12, hq => simp [vwCl] at hq
  obtain ⟨a100, ka100, ca100, f100, g100, h100⟩ := Cond.arrayClass_spec (hws _ w_142)
  obtain ⟨a101, ka101, ca101, f101, g101, h101⟩ := Cond.arrayClass_spec (hws _ w_279)
  obtain ⟨a102, ka102, ca102, f102, g102, h102⟩ := Cond.arrayClass_spec (hws _ w_981)
  obtain ⟨ca110, a110, ka110, e110, -, g110, h110, f110⟩ := Cond.arrayOver_spec (hts _ (ao_all RX0 (by simp)))
  obtain ⟨ca112, a112, ka112, e112, -, g112, h112, f112⟩ := Cond.arrayOver_spec (hts _ (ao_all RX2 (by simp)))
  obtain ⟨ca113, a113, ka113, e113, -, g113, h113, f113⟩ := Cond.arrayOver_spec (hts _ (ao_all RX3 (by simp)))
  obtain ⟨ca115, a115, ka115, e115, -, g115, h115, f115⟩ := Cond.arrayOver_spec (hts _ (ao_all RX5 (by simp)))
  obtain ⟨ca118, a118, ka118, e118, -, g118, h118, f118⟩ := Cond.arrayOver_spec (hts _ (ao_all RX8 (by simp)))
  obtain ⟨ca119, a119, ka119, e119, -, g119, h119, f119⟩ := Cond.arrayOver_spec (hts _ (ao_all RX9 (by simp)))
  obtain ⟨adK, adV, hSt, hTm⟩ := vk_Sof (args := #[Value.ref b]) (s := s) (N := 5) (tm := tmJ) (len := lenJ) (byt := bytJ) (A := fun q : Nat => s.heap.size ≤ q) (by decide) (fun i hi => hs _ (tj_1 i hi)) (fun i hi => hs _ (tj_2 i hi)) (fun i hi => hs _ (tj_3 i hi)) (fun i hi => hs _ (tj_4 i hi)) (fun i hi j hj => hs _ (tj_5 i hi j hj)) (fun i j hi hj hij => (tj_6 i hi j hj hij).imp (fun h => hs _ h) (fun h => hs _ h)) hA
  have hZ1 := va_Zof (A := fun q : Nat => s.heap.size ≤ q) (hts _ ls_1) (hws _ w_12) (va_eqi (hs _ tj_7)) hA
  have hZ2 := va_Zqof (A := fun q : Nat => s.heap.size ≤ q) (hts _ ls_2) (hws _ w_14) (hs _ tj_8) hA
  obtain ⟨fm, hfm⟩ : ∃ fm : Nat, va_Z "jdk/internal/util/Preconditions" "SIOOBE_FORMATTER" "Ljava/util/function/BiFunction;" .null (fun q : Nat => s.heap.size ≤ q) s s.heap ∨ va_Z "jdk/internal/util/Preconditions" "SIOOBE_FORMATTER" "Ljava/util/function/BiFunction;" (.ref fm) (fun q : Nat => s.heap.size ≤ q) s s.heap := by
    rcases hZ2 with h | ⟨t, h⟩
    · exact ⟨0, Or.inl h⟩
    · exact ⟨t, Or.inr h⟩
  let kS0 : Nat → Nat := fun i => if i < 5 then adK i else if i = 5 then b else if i = 30 then fm else adV (i - 10)
  let kA0 : Nat → ClassId := fun t => if t = 100 then a100 else if t = 101 then a101 else if t = 102 then a102 else if t = 110 then a110 else if t = 112 then a112 else if t = 113 then a113 else if t = 115 then a115 else if t = 118 then a118 else a119
  let κ : Cfg := ((dC, dI), s.heap.size, kS0, kS0, kA0, s.heap, L, xs)
  have hK : va_K (kD κ) vwCl (tys κ) s := by
    refine ⟨hKc, fun k q hq => ?_⟩
    rcases k with _ | k
    · cases hq
      exact ⟨arr_of g100 h100, f100⟩
    rcases k with _ | k
    · cases hq
      exact ⟨arr_of g101 h101, f101⟩
    rcases k with _ | k
    · cases hq
      exact ⟨arr_of g102 h102, f102⟩
    rcases k with _ | k
    · cases hq
      exact ⟨arr_of g110 h110, ka110, ca110, g110, h110, e110, f110⟩
    rcases k with _ | k
    · cases hq
      exact ⟨arr_of g112 h112, ka112, ca112, g112, h112, e112, f112⟩
    rcases k with _ | k
    · cases hq
      exact ⟨arr_of g113 h113, ka113, ca113, g113, h113, e113, f113⟩
    rcases k with _ | k
    · cases hq
      exact ⟨arr_of g115 h115, ka115, ca115, g115, h115, e115, f115⟩
    rcases k with _ | k
    · cases hq
      exact ⟨arr_of g118 h118, ka118, ca118, g118, h118, e118, f118⟩
    rcases k with _ | k
    · cases hq
      exact ⟨arr_of g119 h119, ka119, ca119, g119, h119, e119, f119⟩
    exact absurd hq (by simp [tys])
  have hSK : SK κ s := by
    refine ⟨⟨fun i hi => ?_, fun i j hi hj he => ?_⟩, hZ1, hfm, ?_, ?_, ?_, ?_, ?_, hX, hbl⟩
    · have e1 : kS κ i = adK i := if_pos hi
      have e2 : kS κ (10 + i) = adV i := by
        show (if 10 + i < 5 then adK (10 + i) else if 10 + i = 5 then b else if 10 + i = 30 then fm else adV (10 + i - 10)) = adV i
        rw [if_neg (by omega), if_neg (by omega), if_neg (by omega), Nat.add_sub_cancel_left]
      have h9 := hSt.1 i hi
      simp only [e1, e2]
      exact h9
    · have e1 : kS κ i = adK i := if_pos hi
      have e2 : kS κ j = adK j := if_pos hj
      rw [e1, e2] at he
      exact hSt.2 i j hi hj he
    · exact vk_R.of (hts _ sr_0) (hTm 0 (by decide))
    · exact vk_R.of (hts _ sr_1) (hTm 1 (by decide))
    · exact vk_R.of (hts _ sr_2) (hTm 2 (by decide))
    · exact vk_R.of (hts _ sr_3) (hTm 3 (by decide))
    · exact vk_R.of (hts _ sr_4) (hTm 4 (by decide))
  have hNK : NK κ s := ⟨hK, fun q hq => va_Nw.of rfl (hts _ (nest_all q hq)), fun C hC => va_AO.of (hts _ (ao_all C hC)), hSK⟩
  have hHR : HR κ M00 s.heap := ⟨rfl, by decide, fun a ha => absurd ha (by show ¬ (999 : Nat) < 900; decide), fun q _ => rfl⟩
  obtain ⟨M', hrun, hn, hsl⟩ := law_pure κ hL
  obtain ⟨-, hwalk⟩ := g_L_law κ M00 (1, M') hrun
  have hl := lv_entry ([.ref b]) (n := 4) (Nat.le_of_ble_eq_true rfl)
  rw [lg_entry_eq]
  generalize (lg_sl ([.ref b]) ++ List.replicate (4 - (lg_sl ([.ref b])).length) Slot.unset).toArray = ls at hl ⊢
  have hl2 : lv_has ls 4 [(0, rv κ (some 1000005))] := hl
  have hX2 : Ctx κ md_L_law p room_1 s m #[Value.ref b] meth c := ⟨hx, hb, hml, hown, hws, hr, hlocks, (fun h => absurd h (by decide)), hNK, ⟨Nat.le_refl _, fun q _ => rfl⟩, by decide, by decide⟩
  refine hwalk p l e room_1 s m #[Value.ref b] below meth c s.heap [] 0 0 ls (lw_Z below #[Value.ref b] s) hX2 hHR ⟨hl2, fun q hq => by rw [List.mem_singleton.mp hq]; rfl⟩ (fun q hq => by cases hq) (by show 0 + (mN M' - 0) ≤ 600000; omega) (by show 0 + (mL M' - 0) ≤ 7302250; omega) ?_
  intro H' locs' ls' pc' hH' hlo' hd' _
  refine va_forget (fun q hq => hlo' q hq) ?_
  refine W.widen (k := 600000) (n := 7302250) (by show 0 + (mN M' - 0) ≤ 600000; omega) (by show 0 + (mL M' - 0) ≤ 7302250; omega) ?_
  exact lw_ret (Drawn.sameBut.refl s.drawn lw_cs) hx hb hr hlocks hd'
-- ===== YOUR PART ENDS =====
set_option maxHeartbeats 4000000 in
theorem lw_walk (l : Launch) (hflags : l.flags = flags0) (b : Addr) (xs : List Int32) : MetFree l x (headSpec (Jvm.Cond.code x code maxLocals ret :: tables_1) room_1) (lw_P b xs) (fun _ _ _ _ _ => True) lw_Q := by
  refine MetFree.of_bodyS (code := code) (maxLocals := maxLocals) (ret := ret) (by decide) ?_ ?_
  · intro args s m h hn
    obtain ⟨meth, c, h1, h2, h3, h4, h5, h6, -, -⟩ := Cond.code_spec hn (atoms_spec (ws := Jvm.Cond.code x code maxLocals ret :: tables_1) h _ List.mem_cons_self)
    exact ⟨meth, c, h1, h2, h3, h4, h5, h6⟩
  · intro p e s m args below meth c s₁ B hml0 hP _
    obtain ⟨rfl, hx, hbd, hgv⟩ := hP
    obtain ⟨scr, harrAt, hlist, hof, hsmall⟩ := hx
    obtain ⟨hcb, hkn, -, -⟩ := State.arrayAt?_spec harrAt
    have hown : s.vm.findClass R_law = some m.cls := findClass_of_methodNamed B.named
    have hts0 : ∀ c ∈ (Jvm.Cond.code x code maxLocals ret :: tables_1), c.before #[Value.ref b] s = true := atoms_spec (ws := Jvm.Cond.code x code maxLocals ret :: tables_1) B.pre
    have hts : ∀ w ∈ lw_tbl, w.before #[Value.ref b] s = true := k2_hts_sels lw_privs (fun w hw => hts0 w (List.mem_cons_of_mem _ hw)) lw_privs_ok
    have hml : c.maxLocals = 4 := B.maxLocals_eq (hts0 _ List.mem_cons_self)
    have X₀ : Stand p l e room_1 s m #[Value.ref b] below meth c s₁ [] 0 0 := Stand.of_body B
    have hh0 : s₁.heap = s.heap := by rw [B.state]; rfl
    have hsz : scr.slots.size = xs.length := by rw [← Array.length_toList, hlist, List.length_map]
    have hval : ∀ j : Nat, j < xs.length → scr.slots[j]? = some (.int (xs.getD j 0)) := fun j hj => by
      rw [← Array.getElem?_toList, hlist]
      simp [hj]
    have hbl : b < s.heap.size := (Array.getElem?_eq_some_iff.mp hcb).1
    have hX : va_X b xs.length (fun j => xs.getD j 0) s s.heap := ⟨scr, hcb, hof, hkn, hsz, hval⟩
    have K : W p l e room_1 s m #[Value.ref b] below meth c s₁.heap [] 0 0 (lw_Z below #[Value.ref b] s) (entryFrame m ([Value.ref b] : List Value).toArray 4) := by
      rw [hh0]
      exact whole_start l hflags hbd ⟨B.exec, B.bytes, B.returns, hml, hown, hts, hX, hbl, B.notSynchronized, hgv⟩
    obtain ⟨t, a1, o, b1, b2, b3⟩ := K s₁ rfl X₀
    exact ⟨t, o, a1, b1, b2, b3⟩
theorem lw_pre_spec {args : Array Value} {s : State} (h : (Jvm.Cond.and given_1 narrow_1).before args s = true) (hr : rest_1_c.before args s = true) : ∃ (b : Addr) (xs : List Int32), lw_P b xs args s := by
  have hs := flat_of_before _ h
  have hq := flat_of_before _ hr
  have hc : (Cond.count 1).before args s = true := hs _ (by decide +kernel)
  have harr : (Cond.arrayOf (.arg 0) .int).before args s = true := hs _ (by decide +kernel)
  have hle : (Cond.le (.length (.arg 0)) (.int 2560)).before args s = true := hs _ (by decide +kernel)
  have hlen : (Cond.isInt (.length (.arg 0))).before args s = true := hq _ (by decide +kernel)
  have hall : (Cond.all (.arg 0) (.isInt (.elem (.arg 0) (.index 0)))).before args s = true := hq _ (by decide +kernel)
  obtain ⟨b, xs, hb, hx⟩ := State.ints_of_pre rfl harr hlen hall
  have hsm : xs.length < 2 ^ 31 := hx.choose_spec.2.2.2
  have hev : (Term.length (.arg 0)).eval args s none [] s = some (.int xs.length.toInt32) := hx.length_eval hb
  have hv := Cond.le_ints hev (show (Term.int 2560).eval args s none [] s = some (.int 2560) from rfl)
  have hd : xs.length.toInt32 ≤ 2560 := by
    simpa [Cond.before, Cond.holds, hv] using hle
  have hN : xs.length ≤ 2560 := (Int32.ofNat_le_ofNat hsm (by decide)).mp (show Int32.ofNat xs.length ≤ Int32.ofNat 2560 from hd)
  exact ⟨b, xs, Cond.one_arg hc (show args[0]? = some (.ref b) from hb), hx, hN, h⟩
theorem lw_comes (l : Launch) (hflags : l.flags = flags0) : Comes l x (Jvm.Cond.code x code maxLocals ret :: tables_1) room_1 (fun tb e args s => Calls_1 tb e args s ∧ rest_1 tb e args s ∧ Pre_1 tb e args s)
    (fun _ _ args s o t => lw_Q args s o t) := by
  intro p e ha hc hk s m args below hf hfit hheap happ hpre
  obtain ⟨b, xs, hP⟩ := lw_pre_spec hpre.2.2 hpre.2.1
  obtain ⟨k, o, h1, h2, h3, hQ⟩ := lw_walk l hflags b xs p e ha hc hk s m args below hf ((Spec.applies_iff_loose hf).mp happ).1 hP trivial
  exact ⟨k, o, h1, h2, h3, hQ⟩
theorem lw_frame {s t : State} {o : Outcome} {args : Array Value} (h : State.butDraws s t lw_cs (fun t1 => Framed s o t1 [] 600000 7302250)) :
    State.butDraws s t [Jvm.Choice.named "NaN.bits"] (fun t1 => Framed s o t1 (fieldLocs frame_1_writes args s ++ arrayLocs frame_1_arrays args s ++ staticLocs frame_1_statics s) 600000 7302250) := h
theorem lw_limb (L : Cond) (hL : ∀ (args : Array Value) (s t : State), L.after args s (.returned (some (.int 1))) t = true) :
    ArmFor flags0 classFile x code maxLocals ret World_1 tables_1 room_1 Calls_1 rest_1 Pre_1
      (fun tb e a s o t => postC L tb e a s o t ∧ State.butDraws s t [Jvm.Choice.named "NaN.bits"] (fun t1 => Framed s o t1 (fieldLocs frame_1_writes a s ++ arrayLocs frame_1_arrays a s ++ staticLocs frame_1_statics s) 600000 7302250)) := by
  intro l hflags _ _ p e ha hc hk s m args below hf hfit hheap happ hpre
  obtain ⟨k, o, h1, h2, h3, rfl, hF⟩ := lw_comes l hflags p e ha hc hk s m args below hf hfit hheap happ hpre
  exact ⟨k, _, h1, h2, h3, hL args s _, lw_frame hF⟩
theorem i_vc : Claimed_1_1 ∧ Claimed_1_2 := ⟨lw_limb limb_1_1 (fun args s t => by simp [limb_1_1, Cond.after, Cond.holds, Cond.value]), lw_limb limb_1_2 (fun args s t => Cond.after_iff.mpr (by
  first | (rw [show limb_1_2 = Cond.eq .result (.int 1) from rfl, Cond.eq_ints (x := 1) (y := 1) rfl rfl]; simp; done) | (simp [limb_1_2, Cond.value, Term.eval]; done)))⟩
