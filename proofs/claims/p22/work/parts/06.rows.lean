/-! ROWS OVER THE WORLD -/
theorem g_inX0 : ∀ w ∈ wsX00, w ∈ g_WA := by decide +kernel
theorem g_inX1 : ∀ w ∈ wsX10, w ∈ g_WA := by decide +kernel
theorem g_inX2 : ∀ w ∈ wsX20, w ∈ g_WA := by decide +kernel
theorem g_inX3 : ∀ w ∈ wsX30, w ∈ g_WA := by decide +kernel
theorem g_inc (i : Nat) : nI i + Int32.ofInt 1 = nI (i + 1) := nI_1 i
theorem g_lt {a b : Nat} (h : nI a < nI b) (ha : a < 2 ^ 31) (hb : b < 2 ^ 31) : a < b := (nI_ltI ha hb).mp h
theorem g_nlt {a b : Nat} (h : ¬ nI a < nI b) (ha : a < 2 ^ 31) (hb : b < 2 ^ 31) : b ≤ a := Nat.not_lt.mp (mt (nI_ltI ha hb).mpr h)
theorem g_le {a b : Nat} (h : nI a ≤ nI b) (ha : a < 2 ^ 31) (hb : b < 2 ^ 31) : a ≤ b := (nI_leI ha hb).mp h
theorem g_nle {a b : Nat} (h : ¬ nI a ≤ nI b) (ha : a < 2 ^ 31) (hb : b < 2 ^ 31) : b < a := Nat.not_le.mp (mt (nI_leI ha hb).mpr h)
theorem g_eq {a b : Nat} (h : nI a = nI b) (ha : a < 2 ^ 31) (hb : b < 2 ^ 31) : a = b := (nI_eq ha hb).mp h
theorem g_ne {a b : Nat} (h : ¬ nI a = nI b) (ha : a < 2 ^ 31) (hb : b < 2 ^ 31) : a ≠ b := mt (nI_eq ha hb).mpr h
/-- σ' is σ but at lo .. hi -/
def g_off (lo hi : Nat) (σ σ' : Nat → va_E) : Prop := ∀ k, k < lo ∨ hi < k → σ' k = σ k
theorem g_off.rf {lo hi : Nat} {σ : Nat → va_E} : g_off lo hi σ σ := fun _ _ => rfl
theorem g_off.up {lo hi k : Nat} {σ σ' : Nat → va_E} {x : va_E} (h : g_off lo hi σ σ') (h1 : lo ≤ k) (h2 : k ≤ hi) : g_off lo hi σ (va_up σ' k x) := fun j hj => by
  have : j ≠ k := by omega
  simp [va_up, this, h j hj]
theorem g_off.tr {lo hi : Nat} {σ σ' σ2 : Nat → va_E} (h : g_off lo hi σ σ') (h2 : g_off lo hi σ' σ2) : g_off lo hi σ σ2 := fun k hk => (h2 k hk).trans (h k hk)
theorem g_off.wd {lo hi lo2 hi2 : Nat} {σ σ' : Nat → va_E} (h : g_off lo hi σ σ') (h1 : lo2 ≤ lo) (h2 : hi ≤ hi2) : g_off lo2 hi2 σ σ' := fun k hk => h k (by omega)
theorem g_upn {σ : Nat → va_E} {k j : Nat} {x e : va_E} (h : σ j = e) (hj : j ≠ k) : va_up σ k x j = e := by simp [va_up, hj, h]
theorem g_ups {σ : Nat → va_E} {k : Nat} {x : va_E} : va_up σ k x k = x := by simp [va_up]
section GROWS
variable {p : Program} {l : Launch} {e : Env} {R : Room} {s : State} {m : MethodId} {args : Array Value} {below : List Frame} {meth : Method} {c : Code} {H : Heap} {locs : List Loc} {cells slots : Nat} {Q : State → Prop}
variable {D : va_G} {σ : Nat → va_E} {pc : Nat} {ls : Array Slot} {rest : List Value} {cc : ByteArray}
theorem g_top {x y : Int32} (h : x = y) (k : W p l e R s m args below meth c H locs cells slots Q (F0 m pc ls (.int y :: rest))) : W p l e R s m args below meth c H locs cells slots Q (F0 m pc ls (.int x :: rest)) := by rw [h]; exact k
theorem g_topl {x y : Int64} (h : x = y) (k : W p l e R s m args below meth c H locs cells slots Q (F0 m pc ls (.long y :: rest))) : W p l e R s m args below meth c H locs cells slots Q (F0 m pc ls (.long x :: rest)) := by rw [h]; exact k
theorem g_get {index ci N : Nat} {C : String} {T : u_T} (hx : p.tables.exec = Jvm.exec) (hb : c.code = cc) (hts : ∀ w ∈ g_WA, w.before args s = true) (hE : g_EV D s) (hown : s.vm.findClass C = some m.cls) (hP : va_P D vwCl (g_W D σ) H) (hin : ∀ w ∈ u_ws C T N, w ∈ g_WA) (hc : vwCl[ci]? = some (C, T, N)) {q0 : Nat} (hq : q0 < 20) {fs : List Value} (hσ : σ q0 = .inr (ci, fs)) (k : Nat) (hk : k < N) (hT : (T k).1 = C) (hlink : Cond.fieldLink C index C (T k).2.1 (T k).2.2.1 ∈ g_WA) {v : Value} (hv : fs[k]? = some v) (hdg : decode cc pc = .ok (.getfield index, 3))
    (kk : W p l e R s m args below meth c H locs cells slots Q (F0 m (pc + 3) ls (v :: rest))) : W p l e R s m args below meth c H locs cells slots Q (F0 m pc ls (.ref (ad_ D q0) :: rest)) :=
  va_get (D := D) (tys := g_tys D) hx hb hts hin hown hE.1 hP q0 (g_at hq hσ) hc k hk (hts _ hlink) (fun _ h => by rw [hT] at h; exact h) hv hdg kk
theorem g_put {index ci N : Nat} {C : String} {T : u_T} (hx : p.tables.exec = Jvm.exec) (hb : c.code = cc) (hts : ∀ w ∈ g_WA, w.before args s = true) (hE : g_EV D s) (hown : s.vm.findClass C = some m.cls) (hAD : g_AD D) (hP : va_P D vwCl (g_W D σ) H) (hS : va_S (g_A D s.heap.size) s.heap H locs) (hin : ∀ w ∈ u_ws C T N, w ∈ g_WA) (ty : Nat → FieldType) (hty : ∀ k, k < N → parseFieldDescriptor (T k).2.2.1 = some (ty k)) (hnm : ∀ a, a < N → ∀ b, b < N → a ≠ b → (T a).2.1 ≠ (T b).2.1) (hc : vwCl[ci]? = some (C, T, N)) {q0 : Nat} (hq : q0 < 20) {fs : List Value} (hσ : σ q0 = .inr (ci, fs)) (k : Nat) (hk : k < N) (hT : (T k).1 = C) (hfin : (T k).2.2.2 = false) (htk : parseFieldDescriptor (T k).2.2.1 = some .int) (hlink : Cond.fieldLink C index C (T k).2.1 (T k).2.2.1 ∈ g_WA) {v : Int32} (hlen : k < fs.length) (hdg : decode cc pc = .ok (.putfield index, 3))
    (kk : ∀ (H1 : Heap) (locs1 : List Loc), va_P D vwCl (g_W D (va_up σ q0 (.inr (ci, fs.set k (.int v))))) H1 → va_S (g_A D s.heap.size) s.heap H1 locs1 → W p l e R s m args below meth c H1 locs1 cells slots Q (F0 m (pc + 3) ls rest)) : W p l e R s m args below meth c H locs cells slots Q (F0 m pc ls (.int v :: .ref (ad_ D q0) :: rest)) := by
  refine va_put (D := D) (tys := g_tys D) hx hb hts hin ty hty hnm hown hE.1 hP (g_Ds hAD) hS q0 (g_at hq hσ) hc k hk (hts _ hlink) (fun _ h => by rw [hT] at h; exact h) hfin htk rfl rfl hlen hdg (fun H1 locs1 hP1 _ hS1 => kk H1 locs1 ?_ hS1)
  rw [← g_set]; exact hP1
theorem g_iald (hx : p.tables.exec = Jvm.exec) (hb : c.code = cc) (hE : g_EV D s) (hP : va_P D vwCl (g_W D σ) H) {q0 n : Nat} {f : Nat → Int32} (hq : q0 < 20) (hσ : σ q0 = .inl (g_cI D, n, .inl f)) {i : Int32} (hin : vp_in i n) (hdg : decode cc pc = .ok (.iaload, 1))
    (kk : W p l e R s m args below meth c H locs cells slots Q (F0 m (pc + 1) ls (.int (f i.toNatClampNeg) :: rest))) : W p l e R s m args below meth c H locs cells slots Q (F0 m pc ls (.int i :: .ref (ad_ D q0) :: rest)) :=
  va_iald (D := D) hx hb hE.1 hP q0 0 (g_at hq hσ) rfl hin hdg kk
theorem g_ialdN (hx : p.tables.exec = Jvm.exec) (hb : c.code = cc) (hE : g_EV D s) (hP : va_P D vwCl (g_W D σ) H) {q0 n j : Nat} {f : Nat → Int32} (hq : q0 < 20) (hσ : σ q0 = .inl (g_cI D, n, .inl f)) (hj : j < n) (hn : n < 2 ^ 31) {v : Int32} (hv : f j = v) (hdg : decode cc pc = .ok (.iaload, 1))
    (kk : W p l e R s m args below meth c H locs cells slots Q (F0 m (pc + 1) ls (.int v :: rest))) : W p l e R s m args below meth c H locs cells slots Q (F0 m pc ls (.int (nI j) :: .ref (ad_ D q0) :: rest)) := by
  refine g_iald hx hb hE hP hq hσ (vp_in_nI hj hn) hdg ?_
  rw [nI_clamp (Nat.lt_trans hj hn), hv]
  exact kk
theorem g_iast (hx : p.tables.exec = Jvm.exec) (hb : c.code = cc) (hE : g_EV D s) (hAD : g_AD D) (hP : va_P D vwCl (g_W D σ) H) (hS : va_S (g_A D s.heap.size) s.heap H locs) {q0 n : Nat} {f : Nat → Int32} (hq : q0 < 20) (hσ : σ q0 = .inl (g_cI D, n, .inl f)) {i x : Int32} (hin : vp_in i n) (hdg : decode cc pc = .ok (.iastore, 1))
    (kk : ∀ (H1 : Heap) (locs1 : List Loc), va_P D vwCl (g_W D (va_up σ q0 (.inl (g_cI D, n, .inl (upd f i.toNatClampNeg x))))) H1 → va_S (g_A D s.heap.size) s.heap H1 locs1 → W p l e R s m args below meth c H1 locs1 cells slots Q (F0 m (pc + 1) ls rest)) : W p l e R s m args below meth c H locs cells slots Q (F0 m pc ls (.int x :: .int i :: .ref (ad_ D q0) :: rest)) := by
  refine va_iast (D := D) hx hb hE.1 hP (g_Ds hAD) hS q0 0 (g_at hq hσ) rfl hin hdg (fun H1 locs1 hP1 _ hS1 => kk H1 locs1 ?_ hS1)
  rw [← g_set]; exact hP1
theorem g_iastN (hx : p.tables.exec = Jvm.exec) (hb : c.code = cc) (hE : g_EV D s) (hAD : g_AD D) (hP : va_P D vwCl (g_W D σ) H) (hS : va_S (g_A D s.heap.size) s.heap H locs) {q0 n j : Nat} {f : Nat → Int32} (hq : q0 < 20) (hσ : σ q0 = .inl (g_cI D, n, .inl f)) (hj : j < n) (hn : n < 2 ^ 31) {x : Int32} (hdg : decode cc pc = .ok (.iastore, 1))
    (kk : ∀ (H1 : Heap) (locs1 : List Loc), va_P D vwCl (g_W D (va_up σ q0 (.inl (g_cI D, n, .inl (upd f j x))))) H1 → va_S (g_A D s.heap.size) s.heap H1 locs1 → W p l e R s m args below meth c H1 locs1 cells slots Q (F0 m (pc + 1) ls rest)) : W p l e R s m args below meth c H locs cells slots Q (F0 m pc ls (.int x :: .int (nI j) :: .ref (ad_ D q0) :: rest)) := by
  refine g_iast hx hb hE hAD hP hS hq hσ (vp_in_nI hj hn) hdg ?_
  rw [nI_clamp (Nat.lt_trans hj hn)]
  exact kk
theorem g_alen (hx : p.tables.exec = Jvm.exec) (hb : c.code = cc) (hE : g_EV D s) (hP : va_P D vwCl (g_W D σ) H) {q0 n : Nat} {f : Nat → Int32} (hq : q0 < 20) (hσ : σ q0 = .inl (g_cI D, n, .inl f)) (hdg : decode cc pc = .ok (.arraylength, 1))
    (kk : W p l e R s m args below meth c H locs cells slots Q (F0 m (pc + 1) ls (.int (nI n) :: rest))) : W p l e R s m args below meth c H locs cells slots Q (F0 m pc ls (.ref (ad_ D q0) :: rest)) :=
  va_alen (D := D) hx hb hE.1 hP q0 0 (g_at hq hσ) (ty := .int) rfl (v := nI n) rfl hdg kk
theorem g_mmax {index : Nat} (hx : p.tables.exec = Jvm.exec) (hb : c.code = cc) (hml : c.maxLocals = ls.size) {own : String} (hown : s.vm.findClass own = some m.cls) (hts : ∀ w ∈ g_WA, w.before args s = true) (hlink : Cond.methodLink own index Lib.Math.max.name ∈ g_WA) (h3 : Cond.static Lib.Math.max.name ∈ g_WA ∧ Cond.initialized "java/lang/Math" ∈ g_WA ∧ Cond.code Lib.Math.max.name Lib.Math.max.code 2 (some .int) ∈ g_WA) (hR : 1 ≤ R.frames ∧ (rest.map fun v => v.category).sum + 13 ≤ R.locals ∧ cells ≤ R.cells ∧ slots ≤ R.slots) {x y : Int32} (hdg : decode cc pc = .ok (.invokestatic index, 3))
    (kk : W p l e R s m args below meth c H locs cells slots Q (F0 m (pc + 3) ls (.int (if x < y then y else x) :: rest))) : W p l e R s m args below meth c H locs cells slots Q (F0 m pc ls (.int y :: .int x :: rest)) :=
  va_mmax hx hb hml hown (hts _ hlink) (hts _ h3.1) (hts _ h3.2.1) (hts _ h3.2.2) hR.1 hR.2.1 hR.2.2.1 hR.2.2.2 hdg kk
theorem g_mmin {index : Nat} (hx : p.tables.exec = Jvm.exec) (hb : c.code = cc) (hml : c.maxLocals = ls.size) {own : String} (hown : s.vm.findClass own = some m.cls) (hts : ∀ w ∈ g_WA, w.before args s = true) (hlink : Cond.methodLink own index Lib.Math.min.name ∈ g_WA) (h3 : Cond.static Lib.Math.min.name ∈ g_WA ∧ Cond.initialized "java/lang/Math" ∈ g_WA ∧ Cond.code Lib.Math.min.name Lib.Math.min.code 2 (some .int) ∈ g_WA) (hR : 1 ≤ R.frames ∧ (rest.map fun v => v.category).sum + 13 ≤ R.locals ∧ cells ≤ R.cells ∧ slots ≤ R.slots) {x y : Int32} (hdg : decode cc pc = .ok (.invokestatic index, 3))
    (kk : W p l e R s m args below meth c H locs cells slots Q (F0 m (pc + 3) ls (.int (if y < x then y else x) :: rest))) : W p l e R s m args below meth c H locs cells slots Q (F0 m pc ls (.int y :: .int x :: rest)) :=
  va_mmin hx hb hml hown (hts _ hlink) (hts _ h3.1) (hts _ h3.2.1) (hts _ h3.2.2) hR.1 hR.2.1 hR.2.2.1 hR.2.2.2 hdg kk
/-- System.arraycopy from the cell q0 to the cell q1 -/
theorem g_copy {index : Nat} (hx : p.tables.exec = Jvm.exec) (hb : c.code = cc) (hml : c.maxLocals = ls.size) {own : String} (hown : s.vm.findClass own = some m.cls) (hts : ∀ w ∈ g_WA, w.before args s = true) (hlink : Cond.methodLink own index arraycopyName ∈ g_WA) (h3 : Cond.native arraycopyName ∈ g_WA ∧ Cond.static arraycopyName ∈ g_WA ∧ Cond.initialized "java/lang/System" ∈ g_WA) (hE : g_EV D s) (hAD : g_AD D) (hP : va_P D vwCl (g_W D σ) H) (hS : va_S (g_A D s.heap.size) s.heap H locs) {q0 q1 n0 n1 : Nat} {f g : Nat → Int32} (hq0 : q0 < 20) (hq1 : q1 < 20) (hσ0 : σ q0 = .inl (g_cI D, n0, .inl f)) (hσ1 : σ q1 = .inl (g_cI D, n1, .inl g)) {sp dp n : Nat} (h31 : sp < 2 ^ 31 ∧ dp < 2 ^ 31 ∧ n < 2 ^ 31) (h4 : sp + n ≤ n0) (h5 : dp + n ≤ n1) (hR : 1 ≤ R.frames ∧ (rest.map fun v => v.category).sum + 60 ≤ R.locals) (hdg : decode cc pc = .ok (.invokestatic index, 3))
    (kk : ∀ (H1 : Heap) (locs1 : List Loc), va_P D vwCl (g_W D (va_up σ q1 (.inl (g_cI D, n1, .inl (va_cpy f g sp dp n))))) H1 → va_S (g_A D s.heap.size) s.heap H1 locs1 → W p l e R s m args below meth c H1 locs1 cells slots Q (F0 m (pc + 3) ls rest)) : W p l e R s m args below meth c H locs cells slots Q (F0 m pc ls (.int (nI n) :: .int (nI dp) :: .ref (ad_ D q1) :: .int (nI sp) :: .ref (ad_ D q0) :: rest)) := by
  have e1 : (nI sp).toNatClampNeg = sp := nI_clamp h31.1
  have e2 : (nI dp).toNatClampNeg = dp := nI_clamp h31.2.1
  have e3 : (nI n).toNatClampNeg = n := nI_clamp h31.2.2
  refine va_copyi (D := D) (tys := g_tys D) hx hb hml hown (hts _ hlink) (hts _ h3.1) (hts _ h3.2.1) (hts _ h3.2.2) hE.1 hP (g_Ds hAD) hS q0 q1 0 0 (g_at hq0 hσ0) (g_at hq1 hσ1) (ty := .int) rfl rfl rfl (nI_pos h31.1) (nI_pos h31.2.1) (nI_pos h31.2.2) (by rw [e1, e3]; exact h4) (by rw [e2, e3]; exact h5) (fun _ _ => rfl) hR.1 ?_ hdg (fun H1 locs1 hP1 _ hS1 => kk H1 locs1 ?_ hS1)
  · refine Nat.le_trans ?_ hR.2
    exact Nat.add_le_add_left (by decide +kernel) _
  · rw [← g_set, ← e1, ← e2, ← e3]; exact hP1
/-- calls that make nothing -/
theorem g_callV0 {nl : Nat} {own : String} {st0 : List Value} {post : Option Value → (Nat → va_E) → Prop} {y : MethodName} {bytes : ByteArray} {maxL idx n : Nat} {ret : Option FieldType} {rm : Room} {As : List Value} {b q0 ci : Nat} {cl : vw_C} {fs : List Value}
    (hx : p.tables.exec = Jvm.exec) (hb : c.code = cc) (hml : c.maxLocals = nl) (hown : s.vm.findClass own = some m.cls) (hts : ∀ w ∈ g_WA, w.before args s = true) (hE : g_EV D s) (hZ : g_EZ (g_A D s.heap.size) s s.heap) (hP : va_P D vwCl (g_W D σ) H) (hS : va_S (g_A D s.heap.size) s.heap H locs) (hl : ls.size = nl)
    (hM : g_M l D y bytes maxL ret rm (.ref b :: As) σ post) (k : g_kV own idx y bytes maxL ret n) (hq : q0 < 20) (hσ : σ q0 = .inr (ci, fs)) (hbq : b = ad_ D q0) (hc : vwCl[ci]? = some cl) (hcl : cl.1 = y.cls)
    (hn : As.length = n) (hst : st0 = As.reverse ++ .ref b :: rest) (h0 : rm.cells = 0 ∧ rm.slots = 0) (hR : rm.frames + 1 ≤ R.frames ∧ 8 + (maxL + 11) + rm.locals ≤ R.locals) (hrest : (rest.map fun v => v.category).sum ≤ 8) (hf : cells ≤ R.cells ∧ slots ≤ R.slots)
    (hdg : decode cc pc = .ok (.invokevirtual idx, 3))
    (kk : ∀ (v : Option Value) (σ' : Nat → va_E) (H1 : Heap) (locs1 : List Loc), post v σ' → va_P D vwCl (g_W D σ') H1 → va_S (g_A D s.heap.size) s.heap H1 locs1 → W p l e R s m args below meth c H1 locs1 cells slots Q (F0 m (pc + 3) ls (v.toList ++ rest))) : W p l e R s m args below meth c H locs cells slots Q (F0 m pc ls st0) :=
  g_callV hx hb hml hown hts hE hZ hP hS hl hM k hq hσ hbq hc hcl hn hst hR hrest (by rw [h0.1, h0.2]; exact hf) hdg (by rw [h0.1, h0.2]; exact kk)
theorem g_callS0 {nl : Nat} {own : String} {st0 : List Value} {post : Option Value → (Nat → va_E) → Prop} {y : MethodName} {bytes : ByteArray} {maxL idx n : Nat} {ret : Option FieldType} {rm : Room} {As : List Value}
    (hx : p.tables.exec = Jvm.exec) (hb : c.code = cc) (hml : c.maxLocals = nl) (hown : s.vm.findClass own = some m.cls) (hts : ∀ w ∈ g_WA, w.before args s = true) (hE : g_EV D s) (hZ : g_EZ (g_A D s.heap.size) s s.heap) (hP : va_P D vwCl (g_W D σ) H) (hS : va_S (g_A D s.heap.size) s.heap H locs) (hl : ls.size = nl)
    (hM : g_M l D y bytes maxL ret rm As σ post) (k : g_kS own idx y bytes maxL ret n)
    (hn : As.length = n) (hst : st0 = As.reverse ++ rest) (h0 : rm.cells = 0 ∧ rm.slots = 0) (hR : rm.frames + 1 ≤ R.frames ∧ 8 + (maxL + 11) + rm.locals ≤ R.locals) (hrest : (rest.map fun v => v.category).sum ≤ 8) (hf : cells ≤ R.cells ∧ slots ≤ R.slots)
    (hdg : decode cc pc = .ok (.invokestatic idx, 3))
    (kk : ∀ (v : Option Value) (σ' : Nat → va_E) (H1 : Heap) (locs1 : List Loc), post v σ' → va_P D vwCl (g_W D σ') H1 → va_S (g_A D s.heap.size) s.heap H1 locs1 → W p l e R s m args below meth c H1 locs1 cells slots Q (F0 m (pc + 3) ls (v.toList ++ rest))) : W p l e R s m args below meth c H locs cells slots Q (F0 m pc ls st0) :=
  g_callS hx hb hml hown hts hE hZ hP hS hl hM k hn hst hR hrest (by rw [h0.1, h0.2]; exact hf) hdg (by rw [h0.1, h0.2]; exact kk)
theorem g_callN0 {nl : Nat} {own : String} {st0 : List Value} {post : Option Value → (Nat → va_E) → Prop} {y : MethodName} {bytes : ByteArray} {maxL idx n : Nat} {ret : Option FieldType} {rm : Room} {As : List Value}
    (hx : p.tables.exec = Jvm.exec) (hb : c.code = cc) (hml : c.maxLocals = nl) (hown : s.vm.findClass own = some m.cls) (hts : ∀ w ∈ g_WA, w.before args s = true) (hE : g_EV D s) (hZ : g_EZ (g_A D s.heap.size) s s.heap) (hP : va_P D vwCl (g_W D σ) H) (hS : va_S (g_A D s.heap.size) s.heap H locs) (hl : ls.size = nl)
    (hM : g_M l D y bytes maxL ret rm As σ post) (k : g_kN own idx y bytes maxL ret n)
    (hn : As.length = n) (hst : st0 = As.reverse ++ rest) (h0 : rm.cells = 0 ∧ rm.slots = 0) (hR : rm.frames + 1 ≤ R.frames ∧ 8 + (maxL + 11) + rm.locals ≤ R.locals) (hrest : (rest.map fun v => v.category).sum ≤ 8) (hf : cells ≤ R.cells ∧ slots ≤ R.slots)
    (hdg : decode cc pc = .ok (.invokestatic idx, 3))
    (kk : ∀ (v : Option Value) (σ' : Nat → va_E) (H1 : Heap) (locs1 : List Loc), post v σ' → va_P D vwCl (g_W D σ') H1 → va_S (g_A D s.heap.size) s.heap H1 locs1 → W p l e R s m args below meth c H1 locs1 cells slots Q (F0 m (pc + 3) ls (v.toList ++ rest))) : W p l e R s m args below meth c H locs cells slots Q (F0 m pc ls st0) :=
  g_callN hx hb hml hown hts hE hZ hP hS hl hM k hn hst hR hrest (by rw [h0.1, h0.2]; exact hf) hdg (by rw [h0.1, h0.2]; exact kk)
end GROWS
