/-! CALLS THAT MAY THROW; a method with a table of handlers -/
def h_H (l : Launch) (D : va_G) (y : MethodName) (cc : ByteArray) (nL : Nat) (ret : Option FieldType) (hh : List (Nat × Nat × Nat × Nat)) (rm : Room) (av : List Value) (xq : Option (Nat × Nat × (Nat → Int32))) (rs ws : va_W) (post : Option Value → va_W → Prop) : Prop :=
  ∀ sz : Nat, Met l y [Cond.codeWith y cc nL ret hh] rm (va_Pc av (h_Pre D xq rs ws sz)) (h_Q D ws sz post) rm.cells rm.slots (va_A ws sz)
theorem h_ofH {l : Launch} {D : va_G} {y : MethodName} {cc : ByteArray} {nL : Nat} {ret : Option FieldType} {hh : List (Nat × Nat × Nat × Nat)} {rm : Room} {av : List Value} {xq : Option (Nat × Nat × (Nat → Int32))} {rs ws : va_W} {post : Option Value → va_W → Prop} (lv : List (Nat × Value)) (hy : plainName y.cls = true) (hn : (lg_sl av).length ≤ nL) (hlv : lv_args 0 av = lv)
    (body : ∀ (p : Program) (e : Env) (s : State) (m : MethodId) (args : Array Value) (below : List Frame) (meth : Method) (c : Code), p.tables.exec = Jvm.exec → c.code = cc → meth.sig.returnType = ret → c.maxLocals = nL → s.vm.findClass y.cls = some m.cls → meth.locks = false → (∀ w ∈ g_WA, w.before args s = true) → g_EV D s → g_EZ (va_A ws s.heap.size) s s.heap → va_P D vwCl rs s.heap → va_P D vwCl ws s.heap → va_S (va_A ws s.heap.size) s.heap s.heap [] → h_X xq ws s → c.exceptionTable.toList = tableOf hh → ∀ ls : Array Slot, lv_has ls nL lv →
      W p l e rm s m args below meth c s.heap [] 0 0 (MQ below (h_Q D ws s.heap.size post) args s rm.cells rm.slots (va_A ws s.heap.size)) (F0 m 0 ls [])) : h_H l D y cc nL ret hh rm av xq rs ws post := by
  intro sz
  refine va_MetW (cc := cc) (maxL := nL) (ret := ret) (hh := hh) hy rfl ?_
  intro p e s m args below meth c s₁ B hml hv
  obtain ⟨rfl, hsz, hR, hP, hE, hZ, hX⟩ := hv
  subst hsz
  have ht := vx_table (x := y) B (atoms_spec (ws := [Cond.codeWith y cc nL ret hh]) B.pre _ List.mem_cons_self)
  have hl := lv_entry av (n := nL) hn
  rw [lg_entry_eq]
  rw [hlv] at hl
  exact body p e s m av.toArray below meth c B.exec B.bytes B.returns hml (findClass_of_methodNamed B.named) B.notSynchronized hE.hts hE hZ hR hP va_S.rf hX ht _ hl
section HY
variable {p : Program} {l : Launch} {e : Env} {R : Room} {s : State} {m : MethodId} {args : Array Value} {below : List Frame} {meth : Method} {c : Code} {H : Heap} {locs : List Loc} {cells slots : Nat} {Q : State → Prop}
variable {D : va_G} {σ : Nat → va_E} {pc : Nat} {ls : Array Slot} {rest st0 : List Value} {cc : ByteArray} {nl : Nat} {own : String} {A : Nat → Prop} {wc xs rs : va_W}
theorem h_callSH {post : Option Value → va_W → Prop} {y : MethodName} {bytes : ByteArray} {maxL idx n : Nat} {ret : Option FieldType} {hh : List (Nat × Nat × Nat × Nat)} {rm : Room} {As rest : List Value} {xq : Option (Nat × Nat × (Nat → Int32))} {jn : va_W → va_W}
    (hx : p.tables.exec = Jvm.exec) (hb : c.code = cc) (hml : c.maxLocals = nl) (hown : s.vm.findClass own = some m.cls) (hts : ∀ w ∈ g_WA, w.before args s = true) (hE : g_EV D s) (hZ : g_EZ A s s.heap) (hS : va_S A s.heap H locs) (hl : ls.size = nl)
    (hM : h_H l D y bytes maxL ret hh rm As xq rs wc post) (hR : va_P D vwCl rs H) (hC : va_P D vwCl wc H) (hA : ∀ q, va_A wc H.size q → A q) (hX : ∀ U : State, U.heap = H → s.vm.Alike U.vm → h_X xq wc U)
    (hJ : ∀ (w1 : va_W) (H1 : Heap), (∀ q, q < H.size → ¬ va_A wc H.size q → H1[q]? = H[q]?) → va_P D vwCl w1 H1 → va_D (va_A wc H.size) w1 → va_P D vwCl (jn w1) H1 ∧ va_D A (jn w1)) (k : g_kH own idx y bytes maxL ret hh n)
    (hn : As.length = n) (hst : st0 = As.reverse ++ rest) (hRm : rm.frames + 1 ≤ R.frames ∧ 8 + (maxL + 11) + rm.locals ≤ R.locals) (hrest : (rest.map fun v => v.category).sum ≤ 8) (hf : cells + rm.cells ≤ R.cells ∧ slots + rm.slots ≤ R.slots)
    (hdg : decode cc pc = .ok (.invokestatic idx, 3))
    (kk : ∀ (v : Option Value) (w1 : va_W) (H1 : Heap) (locs1 : List Loc), post v w1 → va_P D vwCl (jn w1) H1 → va_D A (jn w1) → va_S A s.heap H1 locs1 → W p l e R s m args below meth c H1 locs1 (cells + rm.cells) (slots + rm.slots) Q (F0 m (pc + 3) ls (v.toList ++ rest))) : W p l e R s m args below meth c H locs cells slots Q (F0 m pc ls st0) := by
  obtain ⟨k1, k2, k4, k5, k6, k7, k8⟩ := k
  have hW : GoodIn g_WA (va_wsS own idx y [Cond.codeWith y bytes maxL ret hh]) := by
    intro w hw
    simp only [va_wsS, List.cons_append, List.nil_append, List.mem_cons, List.not_mem_nil, or_false] at hw
    rcases hw with rfl | rfl | rfl | rfl <;> exact ⟨by assumption, g_good (by assumption)⟩
  exact h_call (vx_runSW (As := As) (rest := rest) ⟨hx, hb, hml, hown, hts⟩ (hM H.size) (vx_cwSW n hts hW rfl rfl rfl ⟨k6, k7, k8⟩ hRm) ⟨h_blind, fun U hU hW => h_pre hE hZ hR hC hS hA hX hU hW⟩ rfl hn hl hst (lv_room hrest) hdg hf) hS hA hJ kk
theorem h_callVY {post : Option Value → (Nat → va_E) → Prop} {px : String → (Nat → va_E) → Prop} {y : MethodName} {bytes : ByteArray} {maxL idx n : Nat} {ret : Option FieldType} {rm : Room} {As rest : List Value} {b q0 ci : Nat} {cl : vw_C} {fs : List Value}
    (hx : p.tables.exec = Jvm.exec) (hb : c.code = cc) (hml : c.maxLocals = nl) (hown : s.vm.findClass own = some m.cls) (hts : ∀ w ∈ g_WA, w.before args s = true) (hE : g_EV D s) (hZ : g_EZ A s s.heap) (hAD : g_AD D) (hP : va_P D vwCl (g_W D σ ++ xs) H) (hD : va_D A (g_W D σ ++ xs)) (hS : va_S A s.heap H locs) (hAs : ∀ q, s.heap.size ≤ q → A q) (hl : ls.size = nl)
    (hM : g_Y l D y bytes maxL ret rm (.ref b :: As) σ post px) (k : g_kV own idx y bytes maxL ret n) (hq : q0 < 20) (hσ : σ q0 = .inr (ci, fs)) (hbq : b = ad_ D q0) (hc : vwCl[ci]? = some cl) (hcl : cl.1 = y.cls)
    (hn : As.length = n) (hst : st0 = As.reverse ++ .ref b :: rest) (hR : rm.frames + 1 ≤ R.frames ∧ 8 + (maxL + 11) + rm.locals ≤ R.locals) (hrest : (rest.map fun v => v.category).sum ≤ 8) (hf : cells + rm.cells ≤ R.cells ∧ slots + rm.slots ≤ R.slots)
    (hdg : decode cc pc = .ok (.invokevirtual idx, 3))
    (kx : ∀ (E : String) (ce : Cell) (q9 : Addr) (σ' : Nat → va_E) (H1 : Heap) (locs1 : List Loc), px E σ' → va_P D vwCl (g_W D σ' ++ xs) H1 → va_D A (g_W D σ' ++ xs) → va_S A s.heap H1 locs1 → H1[q9]? = some ce → ce.vm = .none → s.vm.findClass E = some ce.cls → vx_W p l e R s m args below meth c H1 locs1 (cells + rm.cells) (slots + rm.slots) Q (F0 m pc ls rest) q9)
    (kk : ∀ (v : Option Value) (σ' : Nat → va_E) (H1 : Heap) (locs1 : List Loc), post v σ' → va_P D vwCl (g_W D σ' ++ xs) H1 → va_D A (g_W D σ' ++ xs) → va_S A s.heap H1 locs1 → W p l e R s m args below meth c H1 locs1 (cells + rm.cells) (slots + rm.slots) Q (F0 m (pc + 3) ls (v.toList ++ rest))) : W p l e R s m args below meth c H locs cells slots Q (F0 m pc ls st0) := by
  obtain ⟨k1, k2, k3, k4, k5, k6, k7, k8⟩ := k
  have hW : GoodIn g_WA (wsV own idx y.cls y [Cond.code y bytes maxL ret]) := by
    intro w hw
    simp only [wsV, List.cons_append, List.nil_append, List.mem_cons, List.not_mem_nil, or_false] at hw
    rcases hw with rfl | rfl | rfl | rfl | rfl <;> exact ⟨by assumption, g_good (by assumption)⟩
  have hA2 : ∀ q, va_A (g_W D σ) H.size q → A q := h_AP hD hS hAs
  have hA : ∀ q, g_A D H.size q → A q := by rw [g_AW (σ := σ)]; exact hA2
  have hr := vx_runV (p := p) (l := l) (e := e) (meth := meth) (below := below) (R := R) (As := As) (rest := rest) (b := b) (H := H) (locs := locs) (cells := cells) (slots := slots) (g := F0 m pc ls st0) ⟨hx, hb, hml, hown, hts⟩ (hM H.size) (cwV (C := y.cls) n hts hW rfl rfl rfl ⟨rfl, k6, k7, k8⟩ hR) ⟨g_blind, by rw [← hcl, hbq]; exact va_recv hE.1 (h_prf hP) hc (g_at hq hσ), fun U hU hW => ⟨rfl, by rw [hU], by rw [hU]; exact h_prf hP, hE.warm hW, h_Z (D := D) hW hU hS hA hZ⟩⟩ rfl hn hl hst (lv_room hrest) hdg hf
  intro T hT X
  rcases hr T hT X with ⟨v, st₀, t, T', L, h0, X', hL, e1, e2, ⟨⟨v', σ', hv, hp, hb9⟩, hF⟩, st⟩ | ⟨q, st₀, t, T', L, E, ce, h0, X', hL, e1, e2, ⟨σ', hp, hb9, hF⟩, hce, hcv, hcl9, st⟩
  · cases hv
    obtain ⟨k1, k2, k3⟩ := vx_keep h0 e1 hS (fun q _ h => hA q h) hA hL hF
    obtain ⟨j1, j2⟩ := h_jP hP hD hA2 (g_W D σ') T'.heap (by rw [← g_AW]; exact k2) (by rw [e1]; exact hb9) (by rw [← g_AW]; exact g_Ds hAD)
    obtain ⟨t2, a1, b1⟩ := kk v σ' T'.heap (locs ++ L) hp j1 j2 k3 T' rfl X'
    exact ⟨t2, st t2 a1, b1⟩
  · obtain ⟨k1, k2, k3⟩ := vx_keep h0 e1 hS (fun q _ h => hA q h) hA hL hF
    obtain ⟨j1, j2⟩ := h_jP hP hD hA2 (g_W D σ') T'.heap (by rw [← g_AW]; exact k2) (by rw [e1]; exact hb9) (by rw [← g_AW]; exact g_Ds hAD)
    obtain ⟨t2, a1, b1⟩ := kx E ce q σ' T'.heap (locs ++ L) hp j1 j2 k3 (by rw [e1]; exact hce) hcv hcl9 T' rfl X'
    exact ⟨t2, st.trans a1, b1⟩
end HY
theorem h_AA {A : Nat → Prop} {wc : va_W} {H0 H : Heap} {locs : List Loc} (hD : va_D A wc) (hS : va_S A H0 H locs) (hA : ∀ q, H0.size ≤ q → A q) : ∀ q, va_A wc H.size q → A q := fun q h => by
  rcases h with ⟨k, e, h⟩ | h
  · exact hD.2 k (q, e) h
  · exact hA q (Nat.le_trans hS.1 h)
