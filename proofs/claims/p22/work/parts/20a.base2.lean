/-! CONTRACTS whose exceptions leave a world of their own; methods with a table -/
def g_YC (D : va_G) (px : String → (Nat → va_E) → Prop) (A : Nat → Prop) : String → State → State → Prop := fun E st t => ∃ σ', px E σ' ∧ va_P D vwCl (g_W D σ') t.heap ∧ va_F A st t
def g_Y (l : Launch) (D : va_G) (y : MethodName) (cc : ByteArray) (nL : Nat) (ret : Option FieldType) (rm : Room) (av : List Value) (σ : Nat → va_E) (post : Option Value → (Nat → va_E) → Prop) (px : String → (Nat → va_E) → Prop) : Prop :=
  ∀ sz : Nat, vx_Met l y [Cond.code y cc nL ret] rm (va_Pc av (g_Pre D σ sz)) (g_Q D post (g_A D sz)) (g_YC D px (g_A D sz)) rm.cells rm.slots (g_A D sz)
theorem g_X.Y {l : Launch} {D : va_G} {y : MethodName} {cc : ByteArray} {nL : Nat} {ret : Option FieldType} {rm : Room} {av : List Value} {σ : Nat → va_E} {post : Option Value → (Nat → va_E) → Prop} {px : String → Prop} (h : g_X l D y cc nL ret rm av σ post px) : g_Y l D y cc nL ret rm av σ post (fun E σ' => px E ∧ σ = σ') := by
  intro sz p e ha hc hk s m args below hf happ hP hK
  obtain ⟨n, o, h1, h2, h3, hQ⟩ := h sz p e ha hc hk s m args below hf happ hP hK
  refine ⟨n, o, h1, h2, h3, ?_⟩
  rcases hQ with hq | ⟨q, ho, E, ce, L, ⟨hx1, hx2, hx3⟩, hr⟩
  · exact Or.inl hq
  · exact Or.inr ⟨q, ho, E, ce, L, ⟨σ, ⟨hx1, rfl⟩, hx2, hx3⟩, hr⟩
theorem g_ofY {l : Launch} {D : va_G} {y : MethodName} {cc : ByteArray} {nL : Nat} {ret : Option FieldType} {rm : Room} {av : List Value} {σ : Nat → va_E} {post : Option Value → (Nat → va_E) → Prop} {px : String → (Nat → va_E) → Prop} (lv : List (Nat × Value)) (hy : plainName y.cls = true) (hn : (lg_sl av).length ≤ nL) (hlv : lv_args 0 av = lv)
    (body : ∀ (p : Program) (e : Env) (s : State) (m : MethodId) (args : Array Value) (below : List Frame) (meth : Method) (c : Code), p.tables.exec = Jvm.exec → c.code = cc → meth.sig.returnType = ret → c.maxLocals = nL → s.vm.findClass y.cls = some m.cls → meth.locks = false → (∀ w ∈ g_WA, w.before args s = true) → g_EV D s → g_EZ (g_A D s.heap.size) s s.heap → va_P D vwCl (g_W D σ) s.heap → va_S (g_A D s.heap.size) s.heap s.heap [] → (∀ x ∈ c.exceptionTable.toList, False) → ∀ ls : Array Slot, lv_has ls nL lv →
      W p l e rm s m args below meth c s.heap [] 0 0 (vx_MQ below (g_Q D post (g_A D s.heap.size)) (g_YC D px (g_A D s.heap.size)) args s rm.cells rm.slots (g_A D s.heap.size)) (F0 m 0 ls [])) : g_Y l D y cc nL ret rm av σ post px := by
  intro sz
  refine vx_ofW (cc := cc) (maxL := nL) (ret := ret) hy rfl ?_
  intro p e s m args below meth c s₁ B hml ht hv
  obtain ⟨rfl, hsz, hP, hE, hZ⟩ := hv
  subst hsz
  have hl := lv_entry av (n := nL) hn
  rw [lg_entry_eq]
  rw [hlv] at hl
  exact body p e s m av.toArray below meth c B.exec B.bytes B.returns hml (findClass_of_methodNamed B.named) B.notSynchronized hE.hts hE hZ hP va_S.rf ht _ hl
def g_H (l : Launch) (D : va_G) (y : MethodName) (cc : ByteArray) (nL : Nat) (ret : Option FieldType) (hh : List (Nat × Nat × Nat × Nat)) (rm : Room) (av : List Value) (σ : Nat → va_E) (post : Option Value → (Nat → va_E) → Prop) : Prop :=
  ∀ sz : Nat, Met l y [Cond.codeWith y cc nL ret hh] rm (va_Pc av (g_Pre D σ sz)) (g_Q D post (g_A D sz)) rm.cells rm.slots (g_A D sz)
theorem g_ofH {l : Launch} {D : va_G} {y : MethodName} {cc : ByteArray} {nL : Nat} {ret : Option FieldType} {hh : List (Nat × Nat × Nat × Nat)} {rm : Room} {av : List Value} {σ : Nat → va_E} {post : Option Value → (Nat → va_E) → Prop} (lv : List (Nat × Value)) (hy : plainName y.cls = true) (hn : (lg_sl av).length ≤ nL) (hlv : lv_args 0 av = lv)
    (body : ∀ (p : Program) (e : Env) (s : State) (m : MethodId) (args : Array Value) (below : List Frame) (meth : Method) (c : Code), p.tables.exec = Jvm.exec → c.code = cc → meth.sig.returnType = ret → c.maxLocals = nL → s.vm.findClass y.cls = some m.cls → meth.locks = false → (∀ w ∈ g_WA, w.before args s = true) → g_EV D s → g_EZ (g_A D s.heap.size) s s.heap → va_P D vwCl (g_W D σ) s.heap → va_S (g_A D s.heap.size) s.heap s.heap [] → c.exceptionTable.toList = tableOf hh → ∀ ls : Array Slot, lv_has ls nL lv →
      W p l e rm s m args below meth c s.heap [] 0 0 (MQ below (g_Q D post (g_A D s.heap.size)) args s rm.cells rm.slots (g_A D s.heap.size)) (F0 m 0 ls [])) : g_H l D y cc nL ret hh rm av σ post := by
  intro sz
  refine va_MetW (cc := cc) (maxL := nL) (ret := ret) (hh := hh) hy rfl ?_
  intro p e s m args below meth c s₁ B hml hv
  obtain ⟨rfl, hsz, hP, hE, hZ⟩ := hv
  subst hsz
  have ht := vx_table (x := y) B (atoms_spec (ws := [Cond.codeWith y cc nL ret hh]) B.pre _ List.mem_cons_self)
  have hl := lv_entry av (n := nL) hn
  rw [lg_entry_eq]
  rw [hlv] at hl
  exact body p e s m av.toArray below meth c B.exec B.bytes B.returns hml (findClass_of_methodNamed B.named) B.notSynchronized hE.hts hE hZ hP va_S.rf ht _ hl
def g_kH (own : String) (idx : Nat) (y : MethodName) (cc : ByteArray) (nL : Nat) (ret : Option FieldType) (hh : List (Nat × Nat × Nat × Nat)) (n : Nat) : Prop := Cond.methodLink own idx y ∈ g_WA ∧ Cond.static y ∈ g_WA ∧ Cond.initialized y.cls ∈ g_WA ∧ Cond.codeWith y cc nL ret hh ∈ g_WA ∧ g_cd y n
section GH
variable {p : Program} {l : Launch} {e : Env} {R : Room} {s : State} {m : MethodId} {args : Array Value} {below : List Frame} {meth : Method} {c : Code} {H : Heap} {locs : List Loc} {cells slots : Nat} {Q : State → Prop}
variable {D : va_G} {σ : Nat → va_E} {pc : Nat} {ls : Array Slot} {rest st0 : List Value} {a : Array Value} {post : Option Value → (Nat → va_E) → Prop} {px : String → (Nat → va_E) → Prop} {mc ms : Nat}
variable {cc : ByteArray} {nl : Nat} {own : String}
theorem g_callY (hr : vx_Run p l e R s m args below meth c H locs cells slots mc ms (F0 m pc ls st0) rest (g_Q D post (g_A D H.size) a) (g_YC D px (g_A D H.size)) (g_A D H.size)) (hS : va_S (g_A D s.heap.size) s.heap H locs)
    (kx : ∀ (E : String) (ce : Cell) (q9 : Addr) (σ' : Nat → va_E) (H1 : Heap) (locs1 : List Loc), px E σ' → va_P D vwCl (g_W D σ') H1 → va_S (g_A D s.heap.size) s.heap H1 locs1 → H1[q9]? = some ce → ce.vm = .none → s.vm.findClass E = some ce.cls → vx_W p l e R s m args below meth c H1 locs1 (cells + mc) (slots + ms) Q (F0 m pc ls rest) q9)
    (kk : ∀ (v : Option Value) (σ' : Nat → va_E) (H1 : Heap) (locs1 : List Loc), post v σ' → va_P D vwCl (g_W D σ') H1 → va_S (g_A D s.heap.size) s.heap H1 locs1 → W p l e R s m args below meth c H1 locs1 (cells + mc) (slots + ms) Q (F0 m (pc + 3) ls (v.toList ++ rest))) : W p l e R s m args below meth c H locs cells slots Q (F0 m pc ls st0) := by
  have hA : ∀ q, q < H.size → g_A D H.size q → g_A D s.heap.size q := fun q _ h => g_Amono hS.1 q h
  intro T hT X
  rcases hr T hT X with ⟨v, st₀, t, T', L, h0, X', hL, e1, e2, ⟨⟨v', σ', hv, hp, hb⟩, hF⟩, st⟩ | ⟨q, st₀, t, T', L, E, ce, h0, X', hL, e1, e2, ⟨σ', hp, hb, hF⟩, hce, hcv, hcl, st⟩
  · cases hv
    obtain ⟨k1, k2, k3⟩ := vx_keep h0 e1 hS hA (g_Amono hS.1) hL hF
    obtain ⟨t2, a1, b1⟩ := kk v σ' T'.heap (locs ++ L) hp (by rw [e1]; exact hb) k3 T' rfl X'
    exact ⟨t2, st t2 a1, b1⟩
  · obtain ⟨k1, k2, k3⟩ := vx_keep h0 e1 hS hA (g_Amono hS.1) hL hF
    obtain ⟨t2, a1, b1⟩ := kx E ce q σ' T'.heap (locs ++ L) hp (by rw [e1]; exact hb) k3 (by rw [e1]; exact hce) hcv hcl T' rfl X'
    exact ⟨t2, st.trans a1, b1⟩
theorem g_callVY {y : MethodName} {bytes : ByteArray} {maxL idx n : Nat} {ret : Option FieldType} {rm : Room} {As rest : List Value} {b q0 ci : Nat} {cl : vw_C} {fs : List Value}
    (hx : p.tables.exec = Jvm.exec) (hb : c.code = cc) (hml : c.maxLocals = nl) (hown : s.vm.findClass own = some m.cls) (hts : ∀ w ∈ g_WA, w.before args s = true) (hE : g_EV D s) (hZ : g_EZ (g_A D s.heap.size) s s.heap) (hP : va_P D vwCl (g_W D σ) H) (hS : va_S (g_A D s.heap.size) s.heap H locs) (hl : ls.size = nl)
    (hM : g_Y l D y bytes maxL ret rm (.ref b :: As) σ post px) (k : g_kV own idx y bytes maxL ret n) (hq : q0 < 20) (hσ : σ q0 = .inr (ci, fs)) (hbq : b = ad_ D q0) (hc : vwCl[ci]? = some cl) (hcl : cl.1 = y.cls)
    (hn : As.length = n) (hst : st0 = As.reverse ++ .ref b :: rest) (hR : rm.frames + 1 ≤ R.frames ∧ 8 + (maxL + 11) + rm.locals ≤ R.locals) (hrest : (rest.map fun v => v.category).sum ≤ 8) (hf : cells + rm.cells ≤ R.cells ∧ slots + rm.slots ≤ R.slots)
    (hdg : decode cc pc = .ok (.invokevirtual idx, 3))
    (kx : ∀ (E : String) (ce : Cell) (q9 : Addr) (σ' : Nat → va_E) (H1 : Heap) (locs1 : List Loc), px E σ' → va_P D vwCl (g_W D σ') H1 → va_S (g_A D s.heap.size) s.heap H1 locs1 → H1[q9]? = some ce → ce.vm = .none → s.vm.findClass E = some ce.cls → vx_W p l e R s m args below meth c H1 locs1 (cells + rm.cells) (slots + rm.slots) Q (F0 m pc ls rest) q9)
    (kk : ∀ (v : Option Value) (σ' : Nat → va_E) (H1 : Heap) (locs1 : List Loc), post v σ' → va_P D vwCl (g_W D σ') H1 → va_S (g_A D s.heap.size) s.heap H1 locs1 → W p l e R s m args below meth c H1 locs1 (cells + rm.cells) (slots + rm.slots) Q (F0 m (pc + 3) ls (v.toList ++ rest))) : W p l e R s m args below meth c H locs cells slots Q (F0 m pc ls st0) := by
  obtain ⟨k1, k2, k3, k4, k5, k6, k7, k8⟩ := k
  have hW : GoodIn g_WA (wsV own idx y.cls y [Cond.code y bytes maxL ret]) := by
    intro w hw
    simp only [wsV, List.cons_append, List.nil_append, List.mem_cons, List.not_mem_nil, or_false] at hw
    rcases hw with rfl | rfl | rfl | rfl | rfl <;> exact ⟨by assumption, g_good (by assumption)⟩
  refine g_callY (vx_runV (As := As) (rest := rest) ⟨hx, hb, hml, hown, hts⟩ (hM H.size) (cwV (C := y.cls) n hts hW rfl rfl rfl ⟨rfl, k6, k7, k8⟩ hR) ⟨g_blind, ?_, fun U hU hW => g_pre hE hZ hP hS hU hW⟩ rfl hn hl hst (lv_room hrest) hdg hf) hS kx kk
  rw [← hcl, hbq]
  exact va_recv hE.1 hP hc (g_at hq hσ)
/-- a static call of a method with a table -/
theorem g_callSH {y : MethodName} {bytes : ByteArray} {maxL idx n : Nat} {ret : Option FieldType} {hh : List (Nat × Nat × Nat × Nat)} {rm : Room} {As rest : List Value}
    (hx : p.tables.exec = Jvm.exec) (hb : c.code = cc) (hml : c.maxLocals = nl) (hown : s.vm.findClass own = some m.cls) (hts : ∀ w ∈ g_WA, w.before args s = true) (hE : g_EV D s) (hZ : g_EZ (g_A D s.heap.size) s s.heap) (hP : va_P D vwCl (g_W D σ) H) (hS : va_S (g_A D s.heap.size) s.heap H locs) (hl : ls.size = nl)
    (hM : g_H l D y bytes maxL ret hh rm As σ post) (k : g_kH own idx y bytes maxL ret hh n)
    (hn : As.length = n) (hst : st0 = As.reverse ++ rest) (hR : rm.frames + 1 ≤ R.frames ∧ 8 + (maxL + 11) + rm.locals ≤ R.locals) (hrest : (rest.map fun v => v.category).sum ≤ 8) (hf : cells + rm.cells ≤ R.cells ∧ slots + rm.slots ≤ R.slots)
    (hdg : decode cc pc = .ok (.invokestatic idx, 3))
    (kk : ∀ (v : Option Value) (σ' : Nat → va_E) (H1 : Heap) (locs1 : List Loc), post v σ' → va_P D vwCl (g_W D σ') H1 → va_S (g_A D s.heap.size) s.heap H1 locs1 → W p l e R s m args below meth c H1 locs1 (cells + rm.cells) (slots + rm.slots) Q (F0 m (pc + 3) ls (v.toList ++ rest))) : W p l e R s m args below meth c H locs cells slots Q (F0 m pc ls st0) := by
  obtain ⟨k1, k2, k4, k5, k6, k7, k8⟩ := k
  have hW : GoodIn g_WA (va_wsS own idx y [Cond.codeWith y bytes maxL ret hh]) := by
    intro w hw
    simp only [va_wsS, List.cons_append, List.nil_append, List.mem_cons, List.not_mem_nil, or_false] at hw
    rcases hw with rfl | rfl | rfl | rfl <;> exact ⟨by assumption, g_good (by assumption)⟩
  exact g_call (vx_runSW (As := As) (rest := rest) ⟨hx, hb, hml, hown, hts⟩ (hM H.size) (vx_cwSW n hts hW rfl rfl rfl ⟨k6, k7, k8⟩ hR) ⟨g_blind, fun U hU hW => g_pre hE hZ hP hS hU hW⟩ rfl hn hl hst (lv_room hrest) hdg hf) hS kk
theorem g_outY {E : String} {ce : Cell} {q9 : Addr} {mc ms : Nat} (hout : ∀ x ∈ c.exceptionTable.toList, False) (hlocks : meth.locks = false) (hp : px E σ) (hP : va_P D vwCl (g_W D σ) H) (hS : va_S (g_A D s.heap.size) s.heap H locs) (hcell : H[q9]? = some ce) (hv : ce.vm = .none) (hcl : s.vm.findClass E = some ce.cls) (hc : cells ≤ mc) (hs : slots ≤ ms) :
    vx_W p l e R s m args below meth c H locs cells slots (vx_MQ below (g_Q D post (g_A D s.heap.size)) (g_YC D px (g_A D s.heap.size)) args s mc ms (g_A D s.heap.size)) (F0 m pc ls rest) q9 :=
  vx_out (fun x hx => (hout x hx).elim) hlocks hcell hv hcl (fun t ht _ => ⟨σ, hp, by rw [ht]; exact hP, hS.F ht⟩) hS.2.2 hc hs
end GH
