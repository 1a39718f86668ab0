/-! CONSTRUCTORS: worlds as lists -/
def g_PreC (D : va_G) (w : va_W) (sz : Nat) (U : State) : Prop := U.heap.size = sz ∧ va_P D vwCl w U.heap ∧ g_EV D U ∧ va_D (fun _ => True) w
/-- y, called upon the world w, returns, and post tells the world behind it -/
def g_K (l : Launch) (D : va_G) (y : MethodName) (cc : ByteArray) (rm : Room) (av : List Value) (w : va_W) (post : va_W → Prop) : Prop :=
  ∀ sz : Nat, Met l y [Cond.code y cc 1 none] rm (va_Pc av (g_PreC D w sz)) (va_Qv post (fun w' t => va_P D vwCl w' t.heap ∧ va_D (va_A w sz) w') (va_A w sz)) rm.cells rm.slots (va_A w sz)
theorem g_blindC {D : va_G} {w : va_W} {sz : Nat} {av : List Value} : FrameBlind (va_Pc av (g_PreC D w sz)) := by
  intro a U g mk h
  obtain ⟨h0, h1, h2, h3, h4⟩ := h
  have hW : U.WarmedH (U.calling g mk a).vm := State.WarmedH.refl U
  exact ⟨h0, h1, h2, g_EV.warm hW h3, h4⟩
theorem g_ofK {l : Launch} {D : va_G} {y : MethodName} {cc : ByteArray} {rm : Room} {h0 : Nat} {w : va_W} {post : va_W → Prop} (hy : plainName y.cls = true) (hi : y.name = "<init>")
    (body : ∀ (p : Program) (e : Env) (s : State) (m : MethodId) (args : Array Value) (below : List Frame) (meth : Method) (c : Code) (A : Nat → Prop), p.tables.exec = Jvm.exec → c.code = cc → meth.sig.returnType = none → c.maxLocals = 1 → s.vm.findClass y.cls = some m.cls → meth.locks = false → meth.name = "<init>" → (∀ w ∈ g_WA, w.before args s = true) → g_EV D s → (∀ q : Nat, s.heap.size ≤ q → A q) → va_P D vwCl w s.heap → va_D A w → va_S A s.heap s.heap [] → ∀ ls : Array Slot, lv_has ls 1 [(0, .ref h0)] →
      W p l e rm s m args below meth c s.heap [] 0 0 (MQ below (va_Qv post (fun w' t => va_P D vwCl w' t.heap ∧ va_D A w') A) args s rm.cells rm.slots A) (F0 m 0 ls [])) : g_K l D y cc rm [.ref h0] w post := by
  intro sz
  refine Met.ofW (cc := cc) (maxL := 1) (ret := none) hy rfl ?_
  intro p e s m args below meth c s₁ B hml hv
  obtain ⟨rfl, hsz, hP, hE, hD0⟩ := hv
  subst hsz
  have hl := lv_entry ([.ref h0]) (n := 1) (Nat.le_of_ble_eq_true rfl)
  rw [lg_entry_eq]
  exact body p e s m [Value.ref h0].toArray below meth c _ B.exec B.bytes B.returns hml (findClass_of_methodNamed B.named) B.notSynchronized ((name_of_methodNamed B.named B.method).1.trans hi) hE.hts hE (fun q h => Or.inr h) hP hD0.self va_S.rf _ hl
section GCON
variable {p : Program} {l : Launch} {e : Env} {R : Room} {s : State} {m : MethodId} {args : Array Value} {below : List Frame} {meth : Method} {c : Code} {H : Heap} {locs : List Loc} {cells slots : Nat} {Q : State → Prop}
variable {D : va_G} {A : Nat → Prop} {pc : Nat} {ls : Array Slot} {rest : List Value} {cc : ByteArray} {ws : va_W} {own : String}
theorem g_obj {idx : Nat} (hx : p.tables.exec = Jvm.exec) (hb : c.code = cc) (hml : c.maxLocals = 1) (hown : s.vm.findClass own = some m.cls) (hts : ∀ w ∈ g_WA, w.before args s = true) (hl : ls.size = 1) (h1 : Cond.methodLink own idx Lib.objectInit ∈ g_WA) {a : Nat} (hdg : decode cc pc = .ok (.invokespecial idx, 3)) (hR : 1 ≤ R.frames ∧ 20 ≤ R.locals) (kk : W p l e R s m args below meth c H locs cells slots Q (F0 m (pc + 3) ls [])) : W p l e R s m args below meth c H locs cells slots Q (F0 m pc ls [.ref a]) :=
  W.objInit hx hb hown (hts _ h1) (hts _ (g_mem 31 (by decide +kernel))) (hts _ (g_mem 32 (by decide +kernel))) rfl (hl.trans hml.symm) rfl hdg hR.1 (Nat.le_trans (Nat.le_of_ble_eq_true rfl) hR.2) kk
theorem g_newA {atype : ArrayType} {ty : FieldType} {cA0 : ClassId} {i0 k0 : Nat} (hx : p.tables.exec = Jvm.exec) (hb : c.code = cc) (hts : ∀ w ∈ g_WA, w.before args s = true) (hE : g_EV D s) (hA : ∀ q : Nat, s.heap.size ≤ q → A q) (hP : va_P D vwCl ws H) (hD : va_D A ws) (hS : va_S A s.heap H locs) (hty : newarray.typeOf atype = ty) (hw : Cond.arrayClass ty ∈ g_WA) (hi : (g_tys D)[i0]? = some (cA0, ty)) (hra : ∀ cA, va_RA s cA ty → s.vm.findClass ("[" ++ ty.toString) = some cA) (hk : (g_tys D).length = k0) {a0 : vp_A} {n : Nat} (ha : ∀ cA : ClassId, vp_cell cA a0 = arrV cA n (fun _ => defaultValue ty)) (hn : n < 2 ^ 20) (hn2 : n * componentBytes ty ≤ 536870912) (hcells : cells + 1 ≤ R.cells) (hslots : slots + n ≤ R.slots) (hdg : decode cc pc = .ok (.newarray atype, 2))
    (kk : ∀ (q : Nat) (H1 : Heap), va_P D vwCl (ws ++ [(q, .inl (cA0, a0))]) H1 → va_D A (ws ++ [(q, .inl (cA0, a0))]) → va_S A s.heap H1 locs → W p l e R s m args below meth c H1 locs (cells + 1) (slots + n) Q (F0 m (pc + 2) ls (.ref q :: rest))) : W p l e R s m args below meth c H locs cells slots Q (F0 m pc ls (.int (nI n) :: rest)) := by
  subst hk
  refine va_newa (D := D) (tys := g_tys D) hx hb (hts _ (by rw [hty]; exact hw)) hty hE.1 hP hD hS hA (a0 := a0) ha (nI_pos (by omega)) (nI_clamp (by omega)) hn2 hcells hslots hdg (fun q cA H1 hK hP1 hD1 hS1 => ?_)
  have e1 := hra _ (hK.2 (g_tys D).length (cA, ty) (by simp)).2
  have e2 := hra _ (hE.1.2 i0 (cA0, ty) hi).2
  have e3 : cA = cA0 := Option.some.inj (e1.symm.trans e2)
  subst e3
  exact kk q H1 hP1 hD1 hS1
theorem g_newC (hx : p.tables.exec = Jvm.exec) (hb : c.code = cc) (hts : ∀ w ∈ g_WA, w.before args s = true) (hE : g_EV D s) (hA : ∀ q : Nat, s.heap.size ≤ q → A q) (hP : va_P D vwCl ws H) (hD : va_D A ws) (hS : va_S A s.heap H locs) {n : Nat} (hn : n < 2 ^ 20) (hcells : cells + 1 ≤ R.cells) (hslots : slots + n ≤ R.slots) (hdg : decode cc pc = .ok (.newarray .int, 2))
    (kk : ∀ (q : Nat) (H1 : Heap), va_P D vwCl (ws ++ [(q, .inl (g_cI D, n, .inl (fun _ => 0)))]) H1 → va_D A (ws ++ [(q, .inl (g_cI D, n, .inl (fun _ => 0)))]) → va_S A s.heap H1 locs → W p l e R s m args below meth c H1 locs (cells + 1) (slots + n) Q (F0 m (pc + 2) ls (.ref q :: rest))) : W p l e R s m args below meth c H locs cells slots Q (F0 m pc ls (.int (nI n) :: rest)) :=
  g_newA (i0 := 0) (ty := .int) (a0 := (n, .inl (fun _ => 0))) hx hb hts hE hA hP hD hS rfl (g_mem 49 (by decide +kernel)) rfl (fun _ h => h) rfl (fun _ => rfl) hn (by show n * 4 ≤ 536870912; omega) hcells hslots hdg kk
theorem g_putF {index ci N : Nat} {C : String} {T : u_T} (hx : p.tables.exec = Jvm.exec) (hb : c.code = cc) (hts : ∀ w ∈ g_WA, w.before args s = true) (hE : g_EV D s) (hown : s.vm.findClass C = some m.cls) (hin : meth.name = "<init>") (hP : va_P D vwCl ws H) (hD : va_D A ws) (hS : va_S A s.heap H locs) (hin9 : ∀ w ∈ u_ws C T N, w ∈ g_WA) (ty : Nat → FieldType) (hty : ∀ k, k < N → parseFieldDescriptor (T k).2.2.1 = some (ty k)) (hnm : ∀ a, a < N → ∀ b, b < N → a ≠ b → (T a).2.1 ≠ (T b).2.1) (hc : vwCl[ci]? = some (C, T, N)) {a q : Nat} {fs : List Value} (q0 : Nat) (he : ws[q0]? = some (a, .inr (ci, fs))) (k : Nat) (hk : k < N) (hT : (T k).1 = C) (hfin : (T k).2.2.2 = true) (hnr : narrow (ty k) (.ref q) = .ref q) (hft : fits (ty k) (.ref q) = true) (hlink : Cond.fieldLink C index C (T k).2.1 (T k).2.2.1 ∈ g_WA) (hlen : k < fs.length) (hdg : decode cc pc = .ok (.putfield index, 3))
    (kk : ∀ (H1 : Heap) (locs1 : List Loc), va_P D vwCl (ws.set q0 (a, .inr (ci, fs.set k (.ref q)))) H1 → va_D A (ws.set q0 (a, .inr (ci, fs.set k (.ref q)))) → va_S A s.heap H1 locs1 → W p l e R s m args below meth c H1 locs1 cells slots Q (F0 m (pc + 3) ls rest)) : W p l e R s m args below meth c H locs cells slots Q (F0 m pc ls (.ref q :: .ref a :: rest)) :=
  va_putF (D := D) (tys := g_tys D) hx hb hts hin9 ty hty hnm hown hE.1 hP hD hS q0 he hc k hk (hts _ hlink) (fun _ h => by rw [hT] at h; exact h) hfin hin hT (hty k hk) hnr hft hlen hdg kk
/-- a call of a constructor upon the object at the place i of the world -/
theorem g_callK {nl : Nat} {bytes : ByteArray} {idx : Nat} {rm : Room} {b : Nat} {y : MethodName} {wc wr : va_W} {post : va_W → Prop} (hx : p.tables.exec = Jvm.exec) (hb : c.code = cc) (hml : c.maxLocals = nl) (hown : s.vm.findClass own = some m.cls) (hts : ∀ w ∈ g_WA, w.before args s = true) (hE : g_EV D s) (hA : ∀ q : Nat, s.heap.size ≤ q → A q) (hP : va_P D vwCl ws H) (hD : va_D A ws) (hS : va_S A s.heap H locs) (hl : ls.size = nl)
    (hM : g_K l D y bytes rm [.ref b] wc post) (k1 : Cond.methodLinkNest own idx y RX2 ∈ g_NL ∨ Cond.methodLink own idx y ∈ g_WA) (k2 : Cond.instanceMethod y ∈ g_WA) (k4 : Cond.initialized y.cls ∈ g_WA) (k5 : Cond.code y bytes 1 none ∈ g_WA) (k6 : g_cd y 0) (hi : y.name = "<init>")
    (isC isR : List Nat) (hC2 : isC.filterMap (fun i => ws[i]?) = wc) (hC : isC.map (fun i => ws[i]?) = wc.map some) (hCn : va_nd isC = true) (hR : isR.map (fun i => ws[i]?) = wr.map some) (hn : va_nd isR = true) (hdis : ∀ i ∈ isR, i ∉ isC)
    (hRm : rm.frames + 1 ≤ R.frames ∧ 8 + (1 + 11) + rm.locals ≤ R.locals) (hrest : (rest.map fun v => v.category).sum ≤ 8) (hf : cells + rm.cells ≤ R.cells ∧ slots + rm.slots ≤ R.slots)
    (hdg : decode cc pc = .ok (.invokespecial idx, 3))
    (kk : ∀ (w' : va_W) (H1 : Heap) (locs1 : List Loc), post w' → va_P D vwCl (wr ++ w') H1 → va_D A (wr ++ w') → va_S A s.heap H1 locs1 → W p l e R s m args below meth c H1 locs1 (cells + rm.cells) (slots + rm.slots) Q (F0 m (pc + 3) ls rest)) : W p l e R s m args below meth c H locs cells slots Q (F0 m pc ls (.ref b :: rest)) := by
  have hPc := hP.sub (ws' := wc) isC hC2
  have hDc := hD.sub (ws' := wc) isC hCn hC
  have hFc := va_free (wc := wc) hD hS hA isC hC
  have hG : GoodIn g_WA [Cond.code y bytes 1 none] := g_GI k5
  have hpre : PreS s H (va_Pc [.ref b] (g_PreC D wc H.size)) [.ref b] := ⟨g_blindC, fun U hU hW => ⟨rfl, by rw [hU], by rw [hU]; exact hPc, hE.warm hW, hDc.weaken (fun _ _ _ _ => trivial)⟩⟩
  have hr : va_Run p l e R s m args below meth c H locs cells slots rm.cells rm.slots (F0 m pc ls (.ref b :: rest)) rest (va_Qv post (fun w' t => va_P D vwCl w' t.heap ∧ va_D (va_A wc H.size) w') (va_A wc H.size) (Value.ref b :: []).toArray) (va_A wc H.size) := by
    rcases k1 with k1 | k1
    · exact va_runIN (As := []) (rest := rest) ⟨hx, hb, hml, hown, hts⟩ (hM H.size) ⟨va_cnB 0 hts hG rfl rfl rfl (hE.2.2.1 _ k1) (hts _ k4) k6 hRm, hi, hts _ k2⟩ hpre rfl rfl hl rfl (lv_room hrest) hdg hf
    · exact va_runI (As := []) (rest := rest) ⟨hx, hb, hml, hown, hts⟩ (hM H.size) (cwI 0 hts hG rfl rfl rfl (hts _ k4) (hts _ k1) (hts _ k2) hi k6 hRm) hpre rfl rfl hl rfl (lv_room hrest) hdg hf
  refine va_callv hr hS (fun q _ h => hFc q h) hFc (fun u t H1 locs1 ht hvm hw hB hz1 hk1 hS => ?_)
  obtain ⟨hP1, hD1⟩ := hB
  rw [ht] at hP1
  obtain ⟨hP2, hD2⟩ := va_join (wr := wr) (w1 := u) hP hD isC isR hC hR hn hdis hk1 hFc hP1 hD1
  exact kk u H1 locs1 hw hP2 hD2 hS
end GCON
