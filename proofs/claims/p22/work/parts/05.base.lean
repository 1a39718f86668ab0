/-! THE WORLD: 20 cells. D holds it all: classes and slots (D.1 0..3, D.2 0..3), the array classes (D.1 10 int, 11 int[][]), the addresses (D.2 200), the strings' cells (D.2 100). -/
/-- the address of the cell k -/
def ad_ (D : va_G) (k : Nat) : Nat := D.2 200 k
def g_sa (D : va_G) (k : Nat) : Nat := D.2 100 k
def g_cI (D : va_G) : ClassId := D.1 10
/-- the class of int[][] -/
def g_cA (D : va_G) : ClassId := D.1 11
def g_tys (D : va_G) : List (ClassId × FieldType) := [(g_cI D, .int)]
def g_W (D : va_G) (σ : Nat → va_E) : va_W := (List.range 20).map (fun k => (ad_ D k, σ k))
theorem g_at {D : va_G} {σ : Nat → va_E} {k : Nat} {e : va_E} (hk : k < 20) (h : σ k = e) : (g_W D σ)[k]? = some (ad_ D k, e) := by
  simp [g_W, hk, h]
theorem g_of {D : va_G} {σ : Nat → va_E} {k : Nat} {q : Nat × va_E} (h : (g_W D σ)[k]? = some q) : k < 20 ∧ q = (ad_ D k, σ k) := by
  by_cases hk : k < 20
  · rw [g_at hk rfl] at h
    exact ⟨hk, (Option.some.inj h).symm⟩
  · have : (g_W D σ)[k]? = none := by simp [g_W]; omega
    rw [this] at h; cases h
theorem g_set {D : va_G} {σ : Nat → va_E} {k : Nat} {e : va_E} : (g_W D σ).set k (ad_ D k, e) = g_W D (va_up σ k e) := by
  apply List.ext_getElem?
  intro i
  by_cases hi : i < 20
  · rw [g_at hi rfl]
    by_cases hik : k = i
    · subst hik
      rw [List.getElem?_set_self (by simp [g_W]; exact hi)]
      simp [va_up]
    · rw [List.getElem?_set_ne hik, g_at hi rfl]
      simp [va_up, Ne.symm hik]
  · rw [List.getElem?_eq_none (by simp [g_W]; omega), List.getElem?_eq_none (by simp [g_W]; omega)]
/-- the addresses are apart -/
def g_AD (D : va_G) : Prop := ∀ i j, i < 20 → j < 20 → ad_ D i = ad_ D j → i = j
/-- what a method may change: the world's cells and new ones -/
def g_A (D : va_G) (sz : Nat) : Nat → Prop := fun q => (∃ k, k < 20 ∧ q = ad_ D k) ∨ sz ≤ q
theorem g_D {D : va_G} {σ : Nat → va_E} {A : Nat → Prop} (h : g_AD D) (hA : ∀ k, k < 20 → A (ad_ D k)) : va_D A (g_W D σ) := by
  refine ⟨fun i j p q hi hj hpq => ?_, fun k q hk => ?_⟩
  · obtain ⟨h1, rfl⟩ := g_of hi
    obtain ⟨h2, rfl⟩ := g_of hj
    exact h i j h1 h2 hpq
  · obtain ⟨h1, rfl⟩ := g_of hk
    exact hA k h1
theorem g_Ds {D : va_G} {σ : Nat → va_E} {sz : Nat} (h : g_AD D) : va_D (g_A D sz) (g_W D σ) := g_D h (fun k hk => Or.inl ⟨k, hk, rfl⟩)
theorem g_Asz {D : va_G} {sz : Nat} : ∀ q, sz ≤ q → g_A D sz q := fun _ h => Or.inr h
theorem g_Amono {D : va_G} {a b : Nat} (h : a ≤ b) : ∀ q, g_A D b q → g_A D a q := fun _ hq => hq.elim Or.inl (fun h2 => Or.inr (Nat.le_trans h h2))
/-! THE MACHINE'S TABLES -/
def g_WA : List Cond := lw_tbl.filter goodWord
theorem g_mem {w : Cond} (i : Nat) (h : lw_tbl[i]? = some w ∧ goodWord w = true) : w ∈ g_WA := List.mem_filter.mpr ⟨List.mem_of_getElem? h.1, h.2⟩
def g_E0 : String := "java/lang/IndexOutOfBoundsException"
def g_E1 : String := "java/lang/IllegalArgumentException"
def g_E2 : String := "java/lang/IllegalStateException"
def g_NL : List Cond := [.methodLinkNest RX0 81 yX2_write RX2, .methodLinkNest RX0 56 yX2_read RX2, .methodLinkNest RX1 22 yX2_read RX2, .methodLinkNest RX0 64 yX2_firstUnlikeBit RX2, .methodLinkNest RX0 77 yX2_hasBit RX2, .methodLinkNest RX1 63 yX2_firstUnlikeBit RX2, .methodLinkNest RX1 43 yX2_write RX2, .methodLinkNest RX2 11 yX1_init RX2, .methodLinkNest RX2 24 yX0_init RX2, .methodLinkNest RL 73 yX3_init RL, .castable "[I" "java/lang/Cloneable", .castable g_E0 g_E0, .castable g_E1 g_E1, .castable g_E2 g_E2, .declares (Bundle.initS "java/lang/RuntimeException"), .declares (Bundle.initS "java/lang/Exception"), .declares (Bundle.initS Bundle.tN)]
def g_SL : List (Nat × String) := [(182, "there is no such number"), (186, "that is not a name"), (188, "these are not miles"), (190, "the wood has no village"), (53, "the wood is full"), (62, "there is no such village"), (77, "these are too many for one wood"), (92, "the other wood has a village")]
def g_EA (D : va_G) (U : State) : Prop := ∃ kA : Class, U.vm.classes[g_cA D]? = some kA ∧ kA.kind = .array (g_cI D) (.array .int) ∧ U.vm.findClass ("[" ++ (FieldType.array .int).toString) = some (g_cA D)
theorem g_EA.moved {D : va_G} {u U : State} (hvm : u.vm.Alike U.vm) (h : g_EA D u) : g_EA D U := by
  obtain ⟨kA, h1, h2, h3⟩ := h
  obtain ⟨k', hk', he⟩ := hvm.2.2 _ _ h1
  exact ⟨k', hk', by rw [he]; exact h2, by rw [hvm.findClass]; exact h3⟩
/-- what holds of the tables, in every method -/
def g_EV (D : va_G) (U : State) : Prop := va_K D vwCl (g_tys D) U ∧ (∀ w ∈ g_WA, w.before #[] U = true) ∧ (∀ w ∈ g_NL, va_Nw w U) ∧ (∀ q ∈ g_SL, vk_R RX2 q.1 q.2 (g_sa D q.1) U) ∧ g_EA D U
theorem g_good {w : Cond} (h : w ∈ g_WA) : (w.onTables && w.keeps) = true ∨ ∃ ty, w = .arrayClass ty := good_of_word (List.mem_filter.mp h).2
theorem g_NLwarm {s U : State} (hW : s.WarmedH U.vm) {w : Cond} (hw : w ∈ g_NL) (h : va_Nw w s) : va_Nw w U := by
  simp only [g_NL, List.mem_cons, List.not_mem_nil, or_false] at hw
  rcases hw with rfl | rfl | rfl | rfl | rfl | rfl | rfl | rfl | rfl | rfl | rfl | rfl | rfl | rfl | rfl | rfl | rfl
  iterate 10 exact va_Nw.warmM hW h
  iterate 4 exact va_Nw.warmC hW h
  iterate 3 exact va_Nw.warmD hW h
theorem g_EV.warm {D : va_G} {s U : State} (hW : s.WarmedH U.vm) (h : g_EV D s) : g_EV D U :=
  ⟨va_K.moved hW.alike h.1, fun w hw => word_at hW (g_good hw) (h.2.1 w hw), fun w hw => g_NLwarm hW hw (h.2.2.1 w hw), fun q hq => vk_R.warm hW (h.2.2.2.1 q hq), g_EA.moved hW.alike h.2.2.2.2⟩
theorem g_EV.hts {D : va_G} {s : State} {args : Array Value} (h : g_EV D s) : ∀ w ∈ g_WA, w.before args s = true := fun w hw => word_at (State.WarmedH.refl s) (g_good hw) (h.2.1 w hw)
def g_EZ (A : Nat → Prop) (U : State) (H : Heap) : Prop := vx_Zq Bundle.tN "UNASSIGNED_STACK" Bundle.steD A U H ∧ vx_Zq Bundle.tN "SUPPRESSED_SENTINEL" Bundle.listD A U H
theorem g_EZ.call {D : va_G} {s U : State} {H : Heap} {locs : List Loc} (hW : s.WarmedH U.vm) (hU : U.heap = H) (hS : va_S (g_A D s.heap.size) s.heap H locs) (h : g_EZ (g_A D s.heap.size) s s.heap) : g_EZ (g_A D H.size) U U.heap := by
  subst hU
  exact ⟨vx_Zq.narrow (vx_Zq.moved hW.alike (vx_Zq.kept h.1 hS.2.1)) (g_Amono hS.1), vx_Zq.narrow (vx_Zq.moved hW.alike (vx_Zq.kept h.2 hS.2.1)) (g_Amono hS.1)⟩
/-! CONTRACTS -/
def g_Pre (D : va_G) (σ : Nat → va_E) (sz : Nat) (U : State) : Prop := U.heap.size = sz ∧ va_P D vwCl (g_W D σ) U.heap ∧ g_EV D U ∧ g_EZ (g_A D sz) U U.heap
def g_Q (D : va_G) (post : Option Value → (Nat → va_E) → Prop) (A : Nat → Prop) : Array Value → State → Outcome → State → Prop := fun _ st oc t => (∃ (v : Option Value) (σ' : Nat → va_E), oc = .returned v ∧ post v σ' ∧ va_P D vwCl (g_W D σ') t.heap) ∧ va_F A st t
/-- y, called with av in the world σ, returns, and post tells its answer and the world behind it -/
def g_M (l : Launch) (D : va_G) (y : MethodName) (cc : ByteArray) (nL : Nat) (ret : Option FieldType) (rm : Room) (av : List Value) (σ : Nat → va_E) (post : Option Value → (Nat → va_E) → Prop) : Prop :=
  ∀ sz : Nat, Met l y [Cond.code y cc nL ret] rm (va_Pc av (g_Pre D σ sz)) (g_Q D post (g_A D sz)) rm.cells rm.slots (g_A D sz)
theorem g_blind {D : va_G} {σ : Nat → va_E} {sz : Nat} {av : List Value} : FrameBlind (va_Pc av (g_Pre D σ sz)) := by
  intro a U g mk h
  obtain ⟨h0, h1, h2, h3, h4⟩ := h
  have hW : U.WarmedH (U.calling g mk a).vm := State.WarmedH.refl U
  exact ⟨h0, h1, h2, g_EV.warm hW h3, vx_Zq.moved (Vm.Alike.refl _) h4.1, vx_Zq.moved (Vm.Alike.refl _) h4.2⟩
/-- a world handed to a callee -/
theorem g_pre {D : va_G} {s U : State} {σ : Nat → va_E} {H : Heap} {locs : List Loc} {av : List Value} (hE : g_EV D s) (hZ : g_EZ (g_A D s.heap.size) s s.heap) (hP : va_P D vwCl (g_W D σ) H) (hS : va_S (g_A D s.heap.size) s.heap H locs) (hU : U.heap = H) (hW : s.WarmedH U.vm) : va_Pc av (g_Pre D σ H.size) av.toArray U :=
  ⟨rfl, by rw [hU], by rw [hU]; exact hP, hE.warm hW, hZ.call hW hU hS⟩
section GBASE
variable {p : Program} {l : Launch} {e : Env} {R : Room} {s : State} {m : MethodId} {args : Array Value} {below : List Frame} {meth : Method} {c : Code} {H : Heap} {locs : List Loc} {cells slots : Nat} {Q : State → Prop}
variable {D : va_G} {σ : Nat → va_E} {pc : Nat} {ls : Array Slot} {rest st0 : List Value} {a : Array Value} {post : Option Value → (Nat → va_E) → Prop} {mc ms : Nat}
theorem g_call (hr : va_Run p l e R s m args below meth c H locs cells slots mc ms (F0 m pc ls st0) rest (g_Q D post (g_A D H.size) a) (g_A D H.size)) (hS : va_S (g_A D s.heap.size) s.heap H locs)
    (kk : ∀ (v : Option Value) (σ' : Nat → va_E) (H1 : Heap) (locs1 : List Loc), post v σ' → va_P D vwCl (g_W D σ') H1 → va_S (g_A D s.heap.size) s.heap H1 locs1 → W p l e R s m args below meth c H1 locs1 (cells + mc) (slots + ms) Q (F0 m (pc + 3) ls (v.toList ++ rest))) : W p l e R s m args below meth c H locs cells slots Q (F0 m pc ls st0) := by
  intro T hT X
  obtain ⟨v, st₀, t, T', L, h0, X', hL, e1, e2, ⟨⟨v', σ', hv, hp, hb⟩, hz, hk⟩, st⟩ := hr T hT X
  cases hv
  rw [h0] at hz hk
  have hA : ∀ q, q < H.size → g_A D H.size q → g_A D s.heap.size q := fun q _ h => g_Amono hS.1 q h
  obtain ⟨t2, a1, b1⟩ := kk v σ' T'.heap (locs ++ L) hp (by rw [e1]; exact hb)
    ⟨Nat.le_trans hS.1 (by rw [e1]; exact hz), fun q h1 h2 => by rw [e1, hk q (Nat.lt_of_lt_of_le h1 hS.1) (fun z => h2 (hA q (Nat.lt_of_lt_of_le h1 hS.1) z))]; exact hS.2.1 q h1 h2, fun q hq => by
      rcases List.mem_append.mp hq with h | h
      · exact hS.2.2 q h
      · exact g_Amono hS.1 _ (hL q h)⟩ T' rfl X'
  exact ⟨t2, st t2 a1, b1⟩
/-- a return: the answer, the world -/
theorem g_fin {v : Option Value} {t : State} (hp : post v σ) (hP : va_P D vwCl (g_W D σ) H) (hS : va_S (g_A D s.heap.size) s.heap H locs) (ht : t.heap = H) : g_Q D post (g_A D s.heap.size) a s (.returned v) t :=
  ⟨⟨v, σ, rfl, hp, by rw [ht]; exact hP⟩, hS.F ht⟩
end GBASE
/-- a body, from its entry -/
theorem g_ofW {l : Launch} {D : va_G} {y : MethodName} {cc : ByteArray} {nL : Nat} {ret : Option FieldType} {rm : Room} {av : List Value} {σ : Nat → va_E} {post : Option Value → (Nat → va_E) → Prop} (lv : List (Nat × Value)) (hy : plainName y.cls = true) (hn : (lg_sl av).length ≤ nL) (hlv : lv_args 0 av = lv)
    (body : ∀ (p : Program) (e : Env) (s : State) (m : MethodId) (args : Array Value) (below : List Frame) (meth : Method) (c : Code), p.tables.exec = Jvm.exec → c.code = cc → meth.sig.returnType = ret → c.maxLocals = nL → s.vm.findClass y.cls = some m.cls → meth.locks = false → (∀ w ∈ g_WA, w.before args s = true) → g_EV D s → g_EZ (g_A D s.heap.size) s s.heap → va_P D vwCl (g_W D σ) s.heap → va_S (g_A D s.heap.size) s.heap s.heap [] → (name_ok : y.name = meth.name) → ∀ ls : Array Slot, lv_has ls nL lv →
      W p l e rm s m args below meth c s.heap [] 0 0 (MQ below (g_Q D post (g_A D s.heap.size)) args s rm.cells rm.slots (g_A D s.heap.size)) (F0 m 0 ls [])) : g_M l D y cc nL ret rm av σ post := by
  intro sz
  refine Met.ofW (cc := cc) (maxL := nL) (ret := ret) hy rfl ?_
  intro p e s m args below meth c s₁ B hml hv
  obtain ⟨rfl, hsz, hP, hE, hZ⟩ := hv
  subst hsz
  have hl := lv_entry av (n := nL) hn
  rw [lg_entry_eq]
  rw [hlv] at hl
  exact body p e s m av.toArray below meth c B.exec B.bytes B.returns hml (findClass_of_methodNamed B.named) B.notSynchronized hE.hts hE hZ hP va_S.rf (name_of_methodNamed B.named B.method).1.symm _ hl
/-! CALLS -/
/-- what the tables say of a callee -/
def g_cd (y : MethodName) (n : Nat) : Prop := y.cls ≠ "java/lang/invoke/MethodHandle" ∧ y.cls ≠ "java/lang/invoke/VarHandle" ∧ (parseMethodDescriptor y.desc).map (fun d => d.parameters.length) = some n
def g_kV (own : String) (idx : Nat) (y : MethodName) (cc : ByteArray) (nL : Nat) (ret : Option FieldType) (n : Nat) : Prop := Cond.methodLink own idx y ∈ g_WA ∧ Cond.instanceMethod y ∈ g_WA ∧ Cond.selects y.cls y y ∈ g_WA ∧ Cond.initialized y.cls ∈ g_WA ∧ Cond.code y cc nL ret ∈ g_WA ∧ g_cd y n
def g_kS (own : String) (idx : Nat) (y : MethodName) (cc : ByteArray) (nL : Nat) (ret : Option FieldType) (n : Nat) : Prop := Cond.methodLink own idx y ∈ g_WA ∧ Cond.static y ∈ g_WA ∧ Cond.initialized y.cls ∈ g_WA ∧ Cond.code y cc nL ret ∈ g_WA ∧ g_cd y n
def g_kN (own : String) (idx : Nat) (y : MethodName) (cc : ByteArray) (nL : Nat) (ret : Option FieldType) (n : Nat) : Prop := Cond.methodLinkNest own idx y RX2 ∈ g_NL ∧ Cond.static y ∈ g_WA ∧ Cond.initialized y.cls ∈ g_WA ∧ Cond.code y cc nL ret ∈ g_WA ∧ g_cd y n
theorem g_GI {w : Cond} (h : w ∈ g_WA) : GoodIn g_WA [w] := fun x hx => by rw [List.mem_singleton.mp hx]; exact ⟨h, g_good h⟩
section GCALL
variable {p : Program} {l : Launch} {e : Env} {R : Room} {s : State} {m : MethodId} {args : Array Value} {below : List Frame} {meth : Method} {c : Code} {H : Heap} {locs : List Loc} {cells slots : Nat} {Q : State → Prop}
variable {D : va_G} {σ : Nat → va_E} {pc : Nat} {ls : Array Slot} {st0 : List Value} {post : Option Value → (Nat → va_E) → Prop}
variable {cc : ByteArray} {nl : Nat} {own : String}
/-- a virtual call of y upon the cell q0; As: its arguments, rest: what stays upon the stack -/
theorem g_callV {y : MethodName} {bytes : ByteArray} {maxL idx n : Nat} {ret : Option FieldType} {rm : Room} {As rest : List Value} {b q0 ci : Nat} {cl : vw_C} {fs : List Value}
    (hx : p.tables.exec = Jvm.exec) (hb : c.code = cc) (hml : c.maxLocals = nl) (hown : s.vm.findClass own = some m.cls) (hts : ∀ w ∈ g_WA, w.before args s = true) (hE : g_EV D s) (hZ : g_EZ (g_A D s.heap.size) s s.heap) (hP : va_P D vwCl (g_W D σ) H) (hS : va_S (g_A D s.heap.size) s.heap H locs) (hl : ls.size = nl)
    (hM : g_M l D y bytes maxL ret rm (.ref b :: As) σ post) (k : g_kV own idx y bytes maxL ret n) (hq : q0 < 20) (hσ : σ q0 = .inr (ci, fs)) (hbq : b = ad_ D q0) (hc : vwCl[ci]? = some cl) (hcl : cl.1 = y.cls)
    (hn : As.length = n) (hst : st0 = As.reverse ++ .ref b :: rest) (hR : rm.frames + 1 ≤ R.frames ∧ 8 + (maxL + 11) + rm.locals ≤ R.locals) (hrest : (rest.map fun v => v.category).sum ≤ 8) (hf : cells + rm.cells ≤ R.cells ∧ slots + rm.slots ≤ R.slots)
    (hdg : decode cc pc = .ok (.invokevirtual idx, 3))
    (kk : ∀ (v : Option Value) (σ' : Nat → va_E) (H1 : Heap) (locs1 : List Loc), post v σ' → va_P D vwCl (g_W D σ') H1 → va_S (g_A D s.heap.size) s.heap H1 locs1 → W p l e R s m args below meth c H1 locs1 (cells + rm.cells) (slots + rm.slots) Q (F0 m (pc + 3) ls (v.toList ++ rest))) : W p l e R s m args below meth c H locs cells slots Q (F0 m pc ls st0) := by
  obtain ⟨k1, k2, k3, k4, k5, k6, k7, k8⟩ := k
  have hW : GoodIn g_WA (wsV own idx y.cls y [Cond.code y bytes maxL ret]) := by
    intro w hw
    simp only [wsV, List.cons_append, List.nil_append, List.mem_cons, List.not_mem_nil, or_false] at hw
    rcases hw with rfl | rfl | rfl | rfl | rfl <;> exact ⟨by assumption, g_good (by assumption)⟩
  refine g_call (va_runV (As := As) (rest := rest) ⟨hx, hb, hml, hown, hts⟩ (hM H.size) (cwV (C := y.cls) n hts hW rfl rfl rfl ⟨rfl, k6, k7, k8⟩ hR) ⟨g_blind, ?_, fun U hU hW => g_pre hE hZ hP hS hU hW⟩ rfl hn hl hst (lv_room hrest) hdg hf) hS kk
  rw [← hcl, hbq]
  exact va_recv hE.1 hP hc (g_at hq hσ)
theorem g_callS {y : MethodName} {bytes : ByteArray} {maxL idx n : Nat} {ret : Option FieldType} {rm : Room} {As rest : List Value}
    (hx : p.tables.exec = Jvm.exec) (hb : c.code = cc) (hml : c.maxLocals = nl) (hown : s.vm.findClass own = some m.cls) (hts : ∀ w ∈ g_WA, w.before args s = true) (hE : g_EV D s) (hZ : g_EZ (g_A D s.heap.size) s s.heap) (hP : va_P D vwCl (g_W D σ) H) (hS : va_S (g_A D s.heap.size) s.heap H locs) (hl : ls.size = nl)
    (hM : g_M l D y bytes maxL ret rm As σ post) (k : g_kS own idx y bytes maxL ret n)
    (hn : As.length = n) (hst : st0 = As.reverse ++ rest) (hR : rm.frames + 1 ≤ R.frames ∧ 8 + (maxL + 11) + rm.locals ≤ R.locals) (hrest : (rest.map fun v => v.category).sum ≤ 8) (hf : cells + rm.cells ≤ R.cells ∧ slots + rm.slots ≤ R.slots)
    (hdg : decode cc pc = .ok (.invokestatic idx, 3))
    (kk : ∀ (v : Option Value) (σ' : Nat → va_E) (H1 : Heap) (locs1 : List Loc), post v σ' → va_P D vwCl (g_W D σ') H1 → va_S (g_A D s.heap.size) s.heap H1 locs1 → W p l e R s m args below meth c H1 locs1 (cells + rm.cells) (slots + rm.slots) Q (F0 m (pc + 3) ls (v.toList ++ rest))) : W p l e R s m args below meth c H locs cells slots Q (F0 m pc ls st0) := by
  obtain ⟨k1, k2, k4, k5, k6, k7, k8⟩ := k
  have hW : GoodIn g_WA (va_wsS own idx y [Cond.code y bytes maxL ret]) := by
    intro w hw
    simp only [va_wsS, List.cons_append, List.nil_append, List.mem_cons, List.not_mem_nil, or_false] at hw
    rcases hw with rfl | rfl | rfl | rfl <;> exact ⟨by assumption, g_good (by assumption)⟩
  exact g_call (va_runS (As := As) (rest := rest) ⟨hx, hb, hml, hown, hts⟩ (hM H.size) (va_cwS n hts hW rfl rfl rfl ⟨k6, k7, k8⟩ hR) ⟨g_blind, fun U hU hW => g_pre hE hZ hP hS hU hW⟩ rfl hn hl hst (lv_room hrest) hdg hf) hS kk
theorem g_callN {y : MethodName} {bytes : ByteArray} {maxL idx n : Nat} {ret : Option FieldType} {rm : Room} {As rest : List Value}
    (hx : p.tables.exec = Jvm.exec) (hb : c.code = cc) (hml : c.maxLocals = nl) (hown : s.vm.findClass own = some m.cls) (hts : ∀ w ∈ g_WA, w.before args s = true) (hE : g_EV D s) (hZ : g_EZ (g_A D s.heap.size) s s.heap) (hP : va_P D vwCl (g_W D σ) H) (hS : va_S (g_A D s.heap.size) s.heap H locs) (hl : ls.size = nl)
    (hM : g_M l D y bytes maxL ret rm As σ post) (k : g_kN own idx y bytes maxL ret n)
    (hn : As.length = n) (hst : st0 = As.reverse ++ rest) (hR : rm.frames + 1 ≤ R.frames ∧ 8 + (maxL + 11) + rm.locals ≤ R.locals) (hrest : (rest.map fun v => v.category).sum ≤ 8) (hf : cells + rm.cells ≤ R.cells ∧ slots + rm.slots ≤ R.slots)
    (hdg : decode cc pc = .ok (.invokestatic idx, 3))
    (kk : ∀ (v : Option Value) (σ' : Nat → va_E) (H1 : Heap) (locs1 : List Loc), post v σ' → va_P D vwCl (g_W D σ') H1 → va_S (g_A D s.heap.size) s.heap H1 locs1 → W p l e R s m args below meth c H1 locs1 (cells + rm.cells) (slots + rm.slots) Q (F0 m (pc + 3) ls (v.toList ++ rest))) : W p l e R s m args below meth c H locs cells slots Q (F0 m pc ls st0) := by
  obtain ⟨k1, k2, k4, k5, k6, k7, k8⟩ := k
  exact g_call (va_runSN (As := As) (rest := rest) ⟨hx, hb, hml, hown, hts⟩ (hM H.size) ⟨va_cnB n hts (g_GI k5) rfl rfl rfl (hE.2.2.1 _ k1) (hts _ k4) ⟨k6, k7, k8⟩ hR, hts _ k2, trivial⟩ ⟨g_blind, fun U hU hW => g_pre hE hZ hP hS hU hW⟩ rfl hn hl hst (lv_room hrest) hdg hf) hS kk
end GCALL
/-! THE SAME, WITH EXCEPTIONS -/
def g_XC (D : va_G) (σ : Nat → va_E) (px : String → Prop) (A : Nat → Prop) : String → State → State → Prop := fun E st t => px E ∧ va_P D vwCl (g_W D σ) t.heap ∧ va_F A st t
/-- y, called with av in the world σ, returns as post tells, or throws a class of px, with the world as it was -/
def g_X (l : Launch) (D : va_G) (y : MethodName) (cc : ByteArray) (nL : Nat) (ret : Option FieldType) (rm : Room) (av : List Value) (σ : Nat → va_E) (post : Option Value → (Nat → va_E) → Prop) (px : String → Prop) : Prop :=
  ∀ sz : Nat, vx_Met l y [Cond.code y cc nL ret] rm (va_Pc av (g_Pre D σ sz)) (g_Q D post (g_A D sz)) (g_XC D σ px (g_A D sz)) rm.cells rm.slots (g_A D sz)
theorem g_ofX {l : Launch} {D : va_G} {y : MethodName} {cc : ByteArray} {nL : Nat} {ret : Option FieldType} {rm : Room} {av : List Value} {σ : Nat → va_E} {post : Option Value → (Nat → va_E) → Prop} {px : String → Prop} (lv : List (Nat × Value)) (hy : plainName y.cls = true) (hn : (lg_sl av).length ≤ nL) (hlv : lv_args 0 av = lv)
    (body : ∀ (p : Program) (e : Env) (s : State) (m : MethodId) (args : Array Value) (below : List Frame) (meth : Method) (c : Code), p.tables.exec = Jvm.exec → c.code = cc → meth.sig.returnType = ret → c.maxLocals = nL → s.vm.findClass y.cls = some m.cls → meth.locks = false → (∀ w ∈ g_WA, w.before args s = true) → g_EV D s → g_EZ (g_A D s.heap.size) s s.heap → va_P D vwCl (g_W D σ) s.heap → va_S (g_A D s.heap.size) s.heap s.heap [] → (∀ x ∈ c.exceptionTable.toList, False) → ∀ ls : Array Slot, lv_has ls nL lv →
      W p l e rm s m args below meth c s.heap [] 0 0 (vx_MQ below (g_Q D post (g_A D s.heap.size)) (g_XC D σ px (g_A D s.heap.size)) args s rm.cells rm.slots (g_A D s.heap.size)) (F0 m 0 ls [])) : g_X l D y cc nL ret rm av σ post px := by
  intro sz
  refine vx_ofW (cc := cc) (maxL := nL) (ret := ret) hy rfl ?_
  intro p e s m args below meth c s₁ B hml ht hv
  obtain ⟨rfl, hsz, hP, hE, hZ⟩ := hv
  subst hsz
  have hl := lv_entry av (n := nL) hn
  rw [lg_entry_eq]
  rw [hlv] at hl
  exact body p e s m av.toArray below meth c B.exec B.bytes B.returns hml (findClass_of_methodNamed B.named) B.notSynchronized hE.hts hE hZ hP va_S.rf ht _ hl
section GX
variable {p : Program} {l : Launch} {e : Env} {R : Room} {s : State} {m : MethodId} {args : Array Value} {below : List Frame} {meth : Method} {c : Code} {H : Heap} {locs : List Loc} {cells slots : Nat} {Q : State → Prop}
variable {D : va_G} {σ : Nat → va_E} {pc : Nat} {ls : Array Slot} {rest st0 : List Value} {a : Array Value} {post : Option Value → (Nat → va_E) → Prop} {px : String → Prop} {mc ms : Nat}
variable {cc : ByteArray} {nl : Nat} {own : String}
theorem g_callX (hr : vx_Run p l e R s m args below meth c H locs cells slots mc ms (F0 m pc ls st0) rest (g_Q D post (g_A D H.size) a) (g_XC D σ px (g_A D H.size)) (g_A D H.size)) (hS : va_S (g_A D s.heap.size) s.heap H locs)
    (kx : ∀ (E : String) (ce : Cell) (q9 : Addr) (H1 : Heap) (locs1 : List Loc), px E → va_P D vwCl (g_W D σ) H1 → va_S (g_A D s.heap.size) s.heap H1 locs1 → H1[q9]? = some ce → ce.vm = .none → s.vm.findClass E = some ce.cls → vx_W p l e R s m args below meth c H1 locs1 (cells + mc) (slots + ms) Q (F0 m pc ls rest) q9)
    (kk : ∀ (v : Option Value) (σ' : Nat → va_E) (H1 : Heap) (locs1 : List Loc), post v σ' → va_P D vwCl (g_W D σ') H1 → va_S (g_A D s.heap.size) s.heap H1 locs1 → W p l e R s m args below meth c H1 locs1 (cells + mc) (slots + ms) Q (F0 m (pc + 3) ls (v.toList ++ rest))) : W p l e R s m args below meth c H locs cells slots Q (F0 m pc ls st0) := by
  have hA : ∀ q, q < H.size → g_A D H.size q → g_A D s.heap.size q := fun q _ h => g_Amono hS.1 q h
  intro T hT X
  rcases hr T hT X with ⟨v, st₀, t, T', L, h0, X', hL, e1, e2, ⟨⟨v', σ', hv, hp, hb⟩, hF⟩, st⟩ | ⟨q, st₀, t, T', L, E, ce, h0, X', hL, e1, e2, ⟨hp, hb, hF⟩, hce, hcv, hcl, st⟩
  · cases hv
    obtain ⟨k1, k2, k3⟩ := vx_keep h0 e1 hS hA (g_Amono hS.1) hL hF
    obtain ⟨t2, a1, b1⟩ := kk v σ' T'.heap (locs ++ L) hp (by rw [e1]; exact hb) k3 T' rfl X'
    exact ⟨t2, st t2 a1, b1⟩
  · obtain ⟨k1, k2, k3⟩ := vx_keep h0 e1 hS hA (g_Amono hS.1) hL hF
    obtain ⟨t2, a1, b1⟩ := kx E ce q T'.heap (locs ++ L) hp (by rw [e1]; exact hb) k3 (by rw [e1]; exact hce) hcv hcl T' rfl X'
    exact ⟨t2, st.trans a1, b1⟩
/-- an exception goes on to the caller -/
theorem g_out {E : String} {ce : Cell} {q9 : Addr} {mc ms : Nat} (hout : ∀ x ∈ c.exceptionTable.toList, False) (hlocks : meth.locks = false) (hp : px E) (hP : va_P D vwCl (g_W D σ) H) (hS : va_S (g_A D s.heap.size) s.heap H locs) (hcell : H[q9]? = some ce) (hv : ce.vm = .none) (hcl : s.vm.findClass E = some ce.cls) (hc : cells ≤ mc) (hs : slots ≤ ms) :
    vx_W p l e R s m args below meth c H locs cells slots (vx_MQ below (g_Q D post (g_A D s.heap.size)) (g_XC D σ px (g_A D s.heap.size)) args s mc ms (g_A D s.heap.size)) (F0 m pc ls rest) q9 :=
  vx_out (fun x hx => (hout x hx).elim) hlocks hcell hv hcl (fun t ht _ => ⟨hp, by rw [ht]; exact hP, hS.F ht⟩) hS.2.2 hc hs
/-- a virtual call of y that may throw -/
theorem g_callVX {y : MethodName} {bytes : ByteArray} {maxL idx n : Nat} {ret : Option FieldType} {rm : Room} {As rest : List Value} {b q0 ci : Nat} {cl : vw_C} {fs : List Value}
    (hx : p.tables.exec = Jvm.exec) (hb : c.code = cc) (hml : c.maxLocals = nl) (hown : s.vm.findClass own = some m.cls) (hts : ∀ w ∈ g_WA, w.before args s = true) (hE : g_EV D s) (hZ : g_EZ (g_A D s.heap.size) s s.heap) (hP : va_P D vwCl (g_W D σ) H) (hS : va_S (g_A D s.heap.size) s.heap H locs) (hl : ls.size = nl)
    (hM : g_X l D y bytes maxL ret rm (.ref b :: As) σ post px) (k : g_kV own idx y bytes maxL ret n) (hq : q0 < 20) (hσ : σ q0 = .inr (ci, fs)) (hbq : b = ad_ D q0) (hc : vwCl[ci]? = some cl) (hcl : cl.1 = y.cls)
    (hn : As.length = n) (hst : st0 = As.reverse ++ .ref b :: rest) (hR : rm.frames + 1 ≤ R.frames ∧ 8 + (maxL + 11) + rm.locals ≤ R.locals) (hrest : (rest.map fun v => v.category).sum ≤ 8) (hf : cells + rm.cells ≤ R.cells ∧ slots + rm.slots ≤ R.slots)
    (hdg : decode cc pc = .ok (.invokevirtual idx, 3))
    (kx : ∀ (E : String) (ce : Cell) (q9 : Addr) (H1 : Heap) (locs1 : List Loc), px E → va_P D vwCl (g_W D σ) H1 → va_S (g_A D s.heap.size) s.heap H1 locs1 → H1[q9]? = some ce → ce.vm = .none → s.vm.findClass E = some ce.cls → vx_W p l e R s m args below meth c H1 locs1 (cells + rm.cells) (slots + rm.slots) Q (F0 m pc ls rest) q9)
    (kk : ∀ (v : Option Value) (σ' : Nat → va_E) (H1 : Heap) (locs1 : List Loc), post v σ' → va_P D vwCl (g_W D σ') H1 → va_S (g_A D s.heap.size) s.heap H1 locs1 → W p l e R s m args below meth c H1 locs1 (cells + rm.cells) (slots + rm.slots) Q (F0 m (pc + 3) ls (v.toList ++ rest))) : W p l e R s m args below meth c H locs cells slots Q (F0 m pc ls st0) := by
  obtain ⟨k1, k2, k3, k4, k5, k6, k7, k8⟩ := k
  have hW : GoodIn g_WA (wsV own idx y.cls y [Cond.code y bytes maxL ret]) := by
    intro w hw
    simp only [wsV, List.cons_append, List.nil_append, List.mem_cons, List.not_mem_nil, or_false] at hw
    rcases hw with rfl | rfl | rfl | rfl | rfl <;> exact ⟨by assumption, g_good (by assumption)⟩
  refine g_callX (vx_runV (As := As) (rest := rest) ⟨hx, hb, hml, hown, hts⟩ (hM H.size) (cwV (C := y.cls) n hts hW rfl rfl rfl ⟨rfl, k6, k7, k8⟩ hR) ⟨g_blind, ?_, fun U hU hW => g_pre hE hZ hP hS hU hW⟩ rfl hn hl hst (lv_room hrest) hdg hf) hS kx kk
  rw [← hcl, hbq]
  exact va_recv hE.1 hP hc (g_at hq hσ)
theorem g_callSX {y : MethodName} {bytes : ByteArray} {maxL idx n : Nat} {ret : Option FieldType} {rm : Room} {As rest : List Value}
    (hx : p.tables.exec = Jvm.exec) (hb : c.code = cc) (hml : c.maxLocals = nl) (hown : s.vm.findClass own = some m.cls) (hts : ∀ w ∈ g_WA, w.before args s = true) (hE : g_EV D s) (hZ : g_EZ (g_A D s.heap.size) s s.heap) (hP : va_P D vwCl (g_W D σ) H) (hS : va_S (g_A D s.heap.size) s.heap H locs) (hl : ls.size = nl)
    (hM : g_X l D y bytes maxL ret rm As σ post px) (k : g_kS own idx y bytes maxL ret n)
    (hn : As.length = n) (hst : st0 = As.reverse ++ rest) (hR : rm.frames + 1 ≤ R.frames ∧ 8 + (maxL + 11) + rm.locals ≤ R.locals) (hrest : (rest.map fun v => v.category).sum ≤ 8) (hf : cells + rm.cells ≤ R.cells ∧ slots + rm.slots ≤ R.slots)
    (hdg : decode cc pc = .ok (.invokestatic idx, 3))
    (kx : ∀ (E : String) (ce : Cell) (q9 : Addr) (H1 : Heap) (locs1 : List Loc), px E → va_P D vwCl (g_W D σ) H1 → va_S (g_A D s.heap.size) s.heap H1 locs1 → H1[q9]? = some ce → ce.vm = .none → s.vm.findClass E = some ce.cls → vx_W p l e R s m args below meth c H1 locs1 (cells + rm.cells) (slots + rm.slots) Q (F0 m pc ls rest) q9)
    (kk : ∀ (v : Option Value) (σ' : Nat → va_E) (H1 : Heap) (locs1 : List Loc), post v σ' → va_P D vwCl (g_W D σ') H1 → va_S (g_A D s.heap.size) s.heap H1 locs1 → W p l e R s m args below meth c H1 locs1 (cells + rm.cells) (slots + rm.slots) Q (F0 m (pc + 3) ls (v.toList ++ rest))) : W p l e R s m args below meth c H locs cells slots Q (F0 m pc ls st0) := by
  obtain ⟨k1, k2, k4, k5, k6, k7, k8⟩ := k
  have hW : GoodIn g_WA (va_wsS own idx y [Cond.code y bytes maxL ret]) := by
    intro w hw
    simp only [va_wsS, List.cons_append, List.nil_append, List.mem_cons, List.not_mem_nil, or_false] at hw
    rcases hw with rfl | rfl | rfl | rfl <;> exact ⟨by assumption, g_good (by assumption)⟩
  exact g_callX (vx_runS (As := As) (rest := rest) ⟨hx, hb, hml, hown, hts⟩ (hM H.size) (va_cwS n hts hW rfl rfl rfl ⟨k6, k7, k8⟩ hR) ⟨g_blind, fun U hU hW => g_pre hE hZ hP hS hU hW⟩ rfl hn hl hst (lv_room hrest) hdg hf) hS kx kk
/-- 'throw new E("text")' in FingerPosts -/
theorem g_throw {cls text : String} {ik is ic : Nat} {mc ms : Nat} (hx : p.tables.exec = Jvm.exec) (hb : c.code = cc) (hst : l.stackTraces = false) (hown : s.vm.findClass RX2 = some m.cls) (hts : ∀ w ∈ g_WA, w.before args s = true) (hE : g_EV D s) (hZ : g_EZ (g_A D s.heap.size) s s.heap) (hP : va_P D vwCl (g_W D σ) H) (hS : va_S (g_A D s.heap.size) s.heap H locs) (hsize : ls.size = c.maxLocals)
    (hcls : Bundle.fit cls = true) (hk : Cond.classLink RX2 ik cls ∈ g_WA) (hini : Cond.initialized cls ∈ g_WA) (hcast : Cond.castable cls cls ∈ g_NL) (htx : (is, text) ∈ g_SL)
    (hwords : ∀ w ∈ (vx_atS RX2 ic cls ["java/lang/RuntimeException", "java/lang/Exception"]).filter goodWord, w ∈ g_WA) (hbad : ∀ w ∈ (vx_atS RX2 ic cls ["java/lang/RuntimeException", "java/lang/Exception"]).filter (fun w => !goodWord w), w ∈ [Cond.castable cls cls, Cond.declares (Bundle.initS "java/lang/RuntimeException"), Cond.declares (Bundle.initS "java/lang/Exception"), Cond.declares (Bundle.initS Bundle.tN)])
    (hgood : ∀ w ∈ Cond.classLink RX2 ik cls :: Cond.initialized cls :: vx_atS RX2 ic cls ["java/lang/RuntimeException", "java/lang/Exception"], vx_ot w = true)
    (d0 : decode cc pc = .ok (.new ik, 3)) (d3 : decode cc (pc + 3) = .ok (.dup, 1)) (d4 : decode cc (pc + 4) = .ok (.ldc is, 2)) (d6 : decode cc (pc + 6) = .ok (.invokespecial ic, 3)) (d9 : decode cc (pc + 9) = .ok (.athrow, 1))
    (hout : ∀ x ∈ c.exceptionTable.toList, False) (hlocks : meth.locks = false) (hR : 5 < R.frames ∧ (rest.map fun v => v.category).sum + 82 ≤ R.locals ∧ cells + 1 ≤ R.cells ∧ slots + 6 ≤ R.slots) (hp : px cls) (hc : cells + 1 ≤ mc) (hs : slots + 6 ≤ ms) :
    W p l e R s m args below meth c H locs cells slots (vx_MQ below (g_Q D post (g_A D s.heap.size)) (g_XC D σ px (g_A D s.heap.size)) args s mc ms (g_A D s.heap.size)) (F0 m pc ls rest) := by
  refine vx_throwS (A := g_A D s.heap.size) (own := RX2) (cls := cls) (text := text) (names := ["java/lang/RuntimeException", "java/lang/Exception"]) (ik := ik) (is := is) (ic := ic) hx hb hst hown hcls (by decide +kernel) (hts _ hk) (hts _ hini) (hE.2.2.2.1 _ htx) ?_ hgood hZ.1 hZ.2 hS hsize d0 d3 d4 d6 d9 (fun x hx => (hout x hx).elim) hR.1 (by have := hR.2.1; simp only [List.length_cons, List.length_nil]; omega) hR.2.2.1 hR.2.2.2 hlocks ?_ hS.2.2 hc hs
  · exact vx_hat (fun w hw => hts w (hwords w hw)) hbad (vx_c (va_tabs rfl rfl (hE.2.2.1 _ hcast)) (vx_c (va_tabs rfl rfl (hE.2.2.1 (Cond.declares (Bundle.initS "java/lang/RuntimeException")) (by simp [g_NL]))) (vx_c (va_tabs rfl rfl (hE.2.2.1 (Cond.declares (Bundle.initS "java/lang/Exception")) (by simp [g_NL]))) (vx_c (va_tabs rfl rfl (hE.2.2.1 (Cond.declares (Bundle.initS Bundle.tN)) (by simp [g_NL]))) vx_n))))
  · intro t _ h1 h2
    refine ⟨hp, hP.kept (fun k q hk => h2 q.1 (hP k q hk).lt), Nat.le_trans hS.1 h1, fun q hq hA => ?_⟩
    rw [h2 q (Nat.lt_of_lt_of_le hq hS.1)]
    exact hS.2.1 q hq hA
end GX
