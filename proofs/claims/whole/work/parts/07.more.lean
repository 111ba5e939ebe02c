/-! ===== the script, the String constants as values ===== -/
section MORE
variable {κ : Cfg} {y : MD} {α : Type} {cv : α → Option Value} {o : Option (α × Mem)} {pc : Nat} {lv : List (Nat × Value)} {st : List Value} {M : Mem}
theorem Ctx.N {p : Program} {R : Room} {s : State} {m : MethodId} {args : Array Value} {meth : Method} {c : Code} (X : Ctx κ y p R s m args meth c) : NK κ s := X.2.2.2.2.2.2.2.2.1
def scI {β : Type} (κ : Cfg) (i : Int32) (K : Int32 → Option β) : Option β := if 0 ≤ i.toInt ∧ i.toInt < kL κ then K (kX κ i.toInt.toNat) else none
theorem kad_s (κ : Cfg) (i : Nat) : kad κ (1000000 + i) = kS κ i := by
  unfold kad
  rw [if_neg (by omega), Nat.add_sub_cancel_left]
theorem Ctx.X {p : Program} {R : Room} {s : State} {m : MethodId} {args : Array Value} {meth : Method} {c : Code} (X : Ctx κ y p R s m args meth c) : va_X (kS κ 5) (kL κ) (kX κ) s s.heap ∧ kS κ 5 < kB κ :=
  ⟨va_X.kept X.N.2.2.2.2.2.2.2.2.2.2.2.1 (X.2.2.2.2.2.2.2.2.2.1.2 _ X.N.2.2.2.2.2.2.2.2.2.2.2.2), X.N.2.2.2.2.2.2.2.2.2.2.2.2⟩
theorem G_sld {i : Int32} {K : Int32 → Option (α × Mem)} (hd : decode (mdC y) pc = .ok (.iaload, 1)) (k : ∀ x, G κ y cv (K x) (pc + 1) lv (.int x :: st) M) : G κ y cv (scI κ i K) pc lv (.int i :: rv κ (some 1000005) :: st) M := by
  unfold scI
  refine G.cond (fun hs => ?_) (fun _ => G.none')
  intro r hr
  obtain ⟨g1, g2⟩ := k _ r hr
  refine ⟨g1, ?_⟩
  intro p l e R s m args below meth c H locs cells slots ls Q X hH hl0 hlo hc hs9 fin
  rw [rv_some, kad_s κ 5]
  obtain ⟨hX, hb⟩ := X.X
  have hX2 : va_X (kS κ 5) (kL κ) (kX κ) s H := va_X.kept hX (by rw [hH.2.2.2 _ hb, X.2.2.2.2.2.2.2.2.2.1.2 _ hb])
  have hbl : kS κ 5 < H.size := by rw [hH.1]; omega
  exact va_sld X.1 X.2.1 (A := fun q => kB κ ≤ q) (H0 := H) hX2 hbl (Nat.not_le.mpr hb) ⟨Nat.le_refl _, fun _ _ _ => rfl, hlo⟩ (vp_in_iff2 hs.1 hs.2) hd (g2 p l e R s m args below meth c H locs cells slots ls Q X hH hl0 hlo hc hs9 fin)
theorem G_slen {K : Int32 → Option (α × Mem)} (hd : decode (mdC y) pc = .ok (.arraylength, 1)) (k : ∀ x, G κ y cv (K x) (pc + 1) lv (.int x :: st) M) : G κ y cv (K (Int32.ofNat (kL κ))) pc lv (rv κ (some 1000005) :: st) M := by
  intro r hr
  obtain ⟨g1, g2⟩ := k _ r hr
  refine ⟨g1, ?_⟩
  intro p l e R s m args below meth c H locs cells slots ls Q X hH hl0 hlo hc hs9 fin
  rw [rv_some, kad_s κ 5]
  obtain ⟨hX, hb⟩ := X.X
  have hX2 : va_X (kS κ 5) (kL κ) (kX κ) s H := va_X.kept hX (by rw [hH.2.2.2 _ hb, X.2.2.2.2.2.2.2.2.2.1.2 _ hb])
  have hbl : kS κ 5 < H.size := by rw [hH.1]; omega
  exact va_slen X.1 X.2.1 (A := fun q => kB κ ≤ q) (H0 := H) hX2 hbl (Nat.not_le.mpr hb) ⟨Nat.le_refl _, fun _ _ _ => rfl, hlo⟩ hd (g2 p l e R s m args below meth c H locs cells slots ls Q X hH hl0 hlo hc hs9 fin)
theorem G_ldcS {n i : Nat} {tx : String} (hR : ∀ s, NK κ s → vk_R (mdO y) n tx (kS κ i) s) (hd : decode (mdC y) pc = .ok (.ldc n, 2)) (k : G κ y cv o (pc + 2) lv (rv κ (some (1000000 + i)) :: st) M) : G κ y cv o pc lv st M := by
  refine G.step k ?_
  intro p l e R s m args below meth c H locs cells slots ls Q X hH hl0 kk
  rw [rv_some, kad_s κ i] at kk
  exact va_ldcS X.1 X.2.1 X.2.2.2.1 (hR s X.N) hd (kk ls hl0)
end MORE
section LDCW
variable {p : Program} {l : Launch} {e : Env} {R : Room} {s : State} {m : MethodId} {args : Array Value} {below : List Frame} {meth : Method} {c : Code} {locs : List Loc} {cells slots : Nat}
theorem ldcwF {T : State} (X : Stand p l e R s m args below meth c T locs cells slots) (hexec : p.tables.exec = Jvm.exec) {own : String} {index : Nat} {v : UInt32} (hown : s.vm.findClass own = some m.cls)
    (hconst : (Jvm.Cond.constantFloat own index v).before args s = true) {g : JFrame} (hg : g.method = m) (hdg : decode c.code g.pc = .ok (.ldc_w index, 3)) :
    ∀ target, Steps p.tables e below (T.setTop { g with pc := g.pc + 3, stack := .float v :: g.stack }) target → Steps p.tables e below (T.setTop g) target := by
  obtain ⟨k, cf, hk, hcf, hcp⟩ := Cond.constantFloat_spec hown hconst
  obtain ⟨k', hk', he⟩ := X.warmed.alike.2.2 _ _ hk
  intro target hrest
  subst hg
  jvm_step X.here [hexec, hdg, ldc_w.wp_float (s := T) (f := g) X.here.top hk' (by rw [he]; exact hcf) hcp]
  exact hrest
end LDCW
theorem G_ldcwf {κ : Cfg} {y : MD} {α : Type} {cv : α → Option Value} {o : Option (α × Mem)} {pc : Nat} {lv : List (Nat × Value)} {st : List Value} {M : Mem} {n : Nat} {v : UInt32} (hd : decode (mdC y) pc = .ok (.ldc_w n, 3)) (hw : Jvm.Cond.constantFloat (mdO y) n v ∈ WS) (k : G κ y cv o (pc + 3) lv (.float v :: st) M) : G κ y cv o pc lv st M :=
  G.step k fun p l e R s m args below meth c H locs cells slots ls Q X hH hl kk => by
    intro T hT X2
    obtain ⟨t, a, b⟩ := kk ls hl T hT X2
    exact ⟨t, ldcwF X2 X.1 X.2.2.2.1 (X.w _ hw) (g := F0 m pc ls st) rfl (by rw [X.2.1]; exact hd) t a, b⟩
