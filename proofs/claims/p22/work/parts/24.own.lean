/-! LISTS OF CELLS: a method of the law reads the cells rs and may change the cells ws -/
def h_X (xq : Option (Nat × Nat × (Nat → Int32))) (ws : va_W) (U : State) : Prop := match xq with
  | none => True
  | some q => va_X q.1 q.2.1 q.2.2 U U.heap ∧ q.1 < U.heap.size ∧ ¬ va_A ws U.heap.size q.1
def h_ap (rs ws : va_W) : Prop := ∀ (i j : Nat) (p q : Nat × va_E), rs[i]? = some p → ws[j]? = some q → p.1 ≠ q.1
def h_Pre (D : va_G) (xq : Option (Nat × Nat × (Nat → Int32))) (rs ws : va_W) (sz : Nat) (U : State) : Prop := U.heap.size = sz ∧ va_P D vwCl rs U.heap ∧ va_P D vwCl ws U.heap ∧ g_EV D U ∧ g_EZ (va_A ws sz) U U.heap ∧ h_X xq ws U
def h_Q (D : va_G) (ws : va_W) (sz : Nat) (post : Option Value → va_W → Prop) : Array Value → State → Outcome → State → Prop := fun _ st oc t => (∃ (v : Option Value) (w1 : va_W), oc = .returned v ∧ post v w1 ∧ va_P D vwCl w1 t.heap ∧ va_D (va_A ws sz) w1) ∧ va_F (va_A ws sz) st t
/-- y, called with av, returns; post tells its answer and what became of the cells ws -/
def h_M (l : Launch) (D : va_G) (y : MethodName) (cc : ByteArray) (nL : Nat) (ret : Option FieldType) (rm : Room) (av : List Value) (xq : Option (Nat × Nat × (Nat → Int32))) (rs ws : va_W) (post : Option Value → va_W → Prop) : Prop :=
  ∀ sz : Nat, Met l y [Cond.code y cc nL ret] rm (va_Pc av (h_Pre D xq rs ws sz)) (h_Q D ws sz post) rm.cells rm.slots (va_A ws sz)
theorem h_X.moved {xq : Option (Nat × Nat × (Nat → Int32))} {ws : va_W} {u U : State} (hvm : u.vm.Alike U.vm) (hh : U.heap = u.heap) (h : h_X xq ws u) : h_X xq ws U := by
  cases xq with
  | none => trivial
  | some q =>
    obtain ⟨h1, h2, h3⟩ := h
    exact ⟨by rw [hh]; exact va_X.moved hvm h1, by rw [hh]; exact h2, by rw [hh]; exact h3⟩
theorem h_blind {D : va_G} {xq : Option (Nat × Nat × (Nat → Int32))} {rs ws : va_W} {sz : Nat} {av : List Value} : FrameBlind (va_Pc av (h_Pre D xq rs ws sz)) := by
  intro a U g mk h
  obtain ⟨h0, h1, h2, h3, h4, h5, h6⟩ := h
  have hW : U.WarmedH (U.calling g mk a).vm := State.WarmedH.refl U
  exact ⟨h0, h1, h2, h3, g_EV.warm hW h4, ⟨vx_Zq.moved (Vm.Alike.refl _) h5.1, vx_Zq.moved (Vm.Alike.refl _) h5.2⟩, h_X.moved (Vm.Alike.refl _) rfl h6⟩
theorem h_Z {D : va_G} {A B : Nat → Prop} {s U : State} {H : Heap} {locs : List Loc} (hW : s.WarmedH U.vm) (hU : U.heap = H) (hS : va_S A s.heap H locs) (hA : ∀ q, B q → A q) (h : g_EZ A s s.heap) : g_EZ B U U.heap := by
  subst hU
  exact ⟨vx_Zq.narrow (vx_Zq.moved hW.alike (vx_Zq.kept h.1 hS.2.1)) hA, vx_Zq.narrow (vx_Zq.moved hW.alike (vx_Zq.kept h.2 hS.2.1)) hA⟩
/-- what a callee finds -/
theorem h_pre {D : va_G} {A : Nat → Prop} {s U : State} {xq : Option (Nat × Nat × (Nat → Int32))} {rs ws : va_W} {H : Heap} {locs : List Loc} {av : List Value} (hE : g_EV D s) (hZ : g_EZ A s s.heap) (hR : va_P D vwCl rs H) (hP : va_P D vwCl ws H) (hS : va_S A s.heap H locs) (hA : ∀ q, va_A ws H.size q → A q) (hX : ∀ U : State, U.heap = H → s.vm.Alike U.vm → h_X xq ws U) (hU : U.heap = H) (hW : s.WarmedH U.vm) : va_Pc av (h_Pre D xq rs ws H.size) av.toArray U :=
  ⟨rfl, by rw [hU], by rw [hU]; exact hR, by rw [hU]; exact hP, hE.warm hW, h_Z (D := D) hW hU hS hA hZ, hX U hU hW.alike⟩
/-- cells that are only read stay -/
theorem h_rk {D : va_G} {rs ws : va_W} {H0 H : Heap} {locs : List Loc} (hR : va_P D vwCl rs H0) (hap : h_ap rs ws) (hS : va_S (va_A ws H0.size) H0 H locs) : va_P D vwCl rs H := hR.kept (fun k q hk => hS.2.1 q.1 ((hR k q hk).lt) (fun h => by
  rcases h with ⟨j, e, hj⟩ | h
  · exact hap k j q (q.1, e) hk hj rfl
  · have := (hR k q hk).lt; omega))
theorem h_ap.nil {rs : va_W} : h_ap rs [] := fun _ _ _ _ _ h => by simp at h
/-! how the caller's cells stand behind a call -/
theorem h_jP {D : va_G} {A : Nat → Prop} {wc xs : va_W} {H : Heap} (hP : va_P D vwCl (wc ++ xs) H) (hD : va_D A (wc ++ xs)) (hA : ∀ q, va_A wc H.size q → A q) (w1 : va_W) (H1 : Heap) (hk : ∀ q, q < H.size → ¬ va_A wc H.size q → H1[q]? = H[q]?) (hP1 : va_P D vwCl w1 H1) (hD1 : va_D (va_A wc H.size) w1) : va_P D vwCl (w1 ++ xs) H1 ∧ va_D A (w1 ++ xs) := by
  have hix : ∀ (k : Nat) (q : Nat × va_E), xs[k]? = some q → (wc ++ xs)[wc.length + k]? = some q := fun k q hq => by rw [List.getElem?_append_right (by omega), Nat.add_sub_cancel_left]; exact hq
  have apart : ∀ (k : Nat) (q : Nat × va_E), xs[k]? = some q → q.1 < H.size ∧ ¬ va_A wc H.size q.1 := by
    intro k q hq
    have hl := (hP _ q (hix k q hq)).lt
    refine ⟨hl, fun h => ?_⟩
    rcases h with ⟨j, e, h⟩ | h
    · have hj := (List.getElem?_eq_some_iff.mp h).1
      have := hD.1 (wc.length + k) j q (q.1, e) (hix k q hq) (by rw [List.getElem?_append_left hj]; exact h) rfl
      omega
    · omega
  refine ⟨hP1.app (fun k q hq => ?_), va_D.app (hD1.weaken (fun k q _ h => hA q.1 h)) ⟨fun i j p q hi hj e => ?_, fun k q hq => hD.2 _ q (hix k q hq)⟩ (fun i j x y hx hy hxy => ?_)⟩
  · exact (hP _ q (hix k q hq)).kept (hk q.1 (apart k q hq).1 (apart k q hq).2)
  · have := hD.1 _ _ p q (hix i p hi) (hix j q hj) e
    omega
  · exact (apart j y hy).2 (by rw [← hxy]; exact hD1.2 i x hx)
theorem h_jS {D : va_G} {A : Nat → Prop} {wc xs : va_W} {H : Heap} (hP : va_P D vwCl (xs ++ wc) H) (hD : va_D A (xs ++ wc)) (hA : ∀ q, va_A wc H.size q → A q) (w1 : va_W) (H1 : Heap) (hk : ∀ q, q < H.size → ¬ va_A wc H.size q → H1[q]? = H[q]?) (hP1 : va_P D vwCl w1 H1) (hD1 : va_D (va_A wc H.size) w1) : va_P D vwCl (xs ++ w1) H1 ∧ va_D A (xs ++ w1) := by
  have hix : ∀ (k : Nat) (q : Nat × va_E), xs[k]? = some q → (xs ++ wc)[k]? = some q := fun k q hq => by rw [List.getElem?_append_left (List.getElem?_eq_some_iff.mp hq).1]; exact hq
  have hiy : ∀ (k : Nat) (q : Nat × va_E), wc[k]? = some q → (xs ++ wc)[xs.length + k]? = some q := fun k q hq => by rw [List.getElem?_append_right (by omega), Nat.add_sub_cancel_left]; exact hq
  have apart : ∀ (k : Nat) (q : Nat × va_E), xs[k]? = some q → q.1 < H.size ∧ ¬ va_A wc H.size q.1 := by
    intro k q hq
    have hl := (hP _ q (hix k q hq)).lt
    refine ⟨hl, fun h => ?_⟩
    rcases h with ⟨j, e, h⟩ | h
    · have := hD.1 k (xs.length + j) q (q.1, e) (hix k q hq) (hiy j _ h) rfl
      have := (List.getElem?_eq_some_iff.mp hq).1
      omega
    · omega
  refine ⟨va_P.app (fun k q hq => ?_) hP1, va_D.app ⟨fun i j p q hi hj e => hD.1 i j p q (hix i p hi) (hix j q hj) e, fun k q hq => hD.2 k q (hix k q hq)⟩ (hD1.weaken (fun k q _ h => hA q.1 h)) (fun i j x y hx hy hxy => ?_)⟩
  · exact (hP _ q (hix k q hq)).kept (hk q.1 (apart k q hq).1 (apart k q hq).2)
  · exact (apart i x hx).2 (by rw [hxy]; exact hD1.2 j y hy)
theorem h_jR {D : va_G} {A : Nat → Prop} {ws : va_W} {H : Heap} (hP : va_P D vwCl ws H) (hD : va_D A ws) (hA : ∀ q, va_A [] H.size q → A q) (w1 : va_W) (H1 : Heap) (hk : ∀ q, q < H.size → ¬ va_A [] H.size q → H1[q]? = H[q]?) (hP1 : va_P D vwCl w1 H1) (hD1 : va_D (va_A [] H.size) w1) : va_P D vwCl (ws ++ w1) H1 ∧ va_D A (ws ++ w1) :=
  h_jS (wc := []) (by rw [List.append_nil]; exact hP) (by rw [List.append_nil]; exact hD) hA w1 H1 hk hP1 hD1
theorem h_jA {D : va_G} {A : Nat → Prop} {wc : va_W} {H : Heap} (hA : ∀ q, va_A wc H.size q → A q) (w1 : va_W) (H1 : Heap) (hk : ∀ q, q < H.size → ¬ va_A wc H.size q → H1[q]? = H[q]?) (hP1 : va_P D vwCl w1 H1) (hD1 : va_D (va_A wc H.size) w1) : va_P D vwCl w1 H1 ∧ va_D A w1 := ⟨hP1, hD1.weaken (fun k q _ h => hA q.1 h)⟩
theorem h_Anil {A : Nat → Prop} {H0 H : Heap} {locs : List Loc} (hS : va_S A H0 H locs) (hA : ∀ q, H0.size ≤ q → A q) : ∀ q, va_A [] H.size q → A q := fun q h => by
  rcases h with ⟨k, e, h⟩ | h
  · simp at h
  · exact hA q (Nat.le_trans hS.1 h)
theorem h_AP {A : Nat → Prop} {wc xs : va_W} {H0 H : Heap} {locs : List Loc} (hD : va_D A (wc ++ xs)) (hS : va_S A H0 H locs) (hA : ∀ q, H0.size ≤ q → A q) : ∀ q, va_A wc H.size q → A q := fun q h => by
  rcases h with ⟨k, e, h⟩ | h
  · exact hD.2 k (q, e) (by rw [List.getElem?_append_left (List.getElem?_eq_some_iff.mp h).1]; exact h)
  · exact hA q (Nat.le_trans hS.1 h)
theorem h_AS {A : Nat → Prop} {wc xs : va_W} {H0 H : Heap} {locs : List Loc} (hD : va_D A (xs ++ wc)) (hS : va_S A H0 H locs) (hA : ∀ q, H0.size ≤ q → A q) : ∀ q, va_A wc H.size q → A q := fun q h => by
  rcases h with ⟨k, e, h⟩ | h
  · exact hD.2 (xs.length + k) (q, e) (by rw [List.getElem?_append_right (by omega), Nat.add_sub_cancel_left]; exact h)
  · exact hA q (Nat.le_trans hS.1 h)
theorem h_Asz {ws : va_W} {sz : Nat} : ∀ q, sz ≤ q → va_A ws sz q := fun _ h => Or.inr h
section HOWN
variable {p : Program} {l : Launch} {e : Env} {R : Room} {s : State} {m : MethodId} {args : Array Value} {below : List Frame} {meth : Method} {c : Code} {H : Heap} {locs : List Loc} {cells slots : Nat} {Q : State → Prop}
variable {D : va_G} {pc : Nat} {ls : Array Slot} {rest st0 : List Value} {a : Array Value} {post : Option Value → va_W → Prop} {mc ms : Nat} {cc : ByteArray} {nl : Nat} {own : String} {A : Nat → Prop} {wc ws rs : va_W}
theorem h_call (hr : va_Run p l e R s m args below meth c H locs cells slots mc ms (F0 m pc ls st0) rest (h_Q D wc H.size post a) (va_A wc H.size)) (hS : va_S A s.heap H locs) (hA : ∀ q, va_A wc H.size q → A q)
    {jn : va_W → va_W} (hJ : ∀ (w1 : va_W) (H1 : Heap), (∀ q, q < H.size → ¬ va_A wc H.size q → H1[q]? = H[q]?) → va_P D vwCl w1 H1 → va_D (va_A wc H.size) w1 → va_P D vwCl (jn w1) H1 ∧ va_D A (jn w1))
    (kk : ∀ (v : Option Value) (w1 : va_W) (H1 : Heap) (locs1 : List Loc), post v w1 → va_P D vwCl (jn w1) H1 → va_D A (jn w1) → va_S A s.heap H1 locs1 → W p l e R s m args below meth c H1 locs1 (cells + mc) (slots + ms) Q (F0 m (pc + 3) ls (v.toList ++ rest))) : W p l e R s m args below meth c H locs cells slots Q (F0 m pc ls st0) := by
  intro T hT X
  obtain ⟨v, st₀, t, T', L, h0, X', hL, e1, e2, ⟨⟨v', w1, hv, hp, hb, hd⟩, hz, hk⟩, st⟩ := hr T hT X
  cases hv
  rw [h0] at hz hk
  obtain ⟨hJ1, hJ2⟩ := hJ w1 T'.heap (fun q h1 h2 => by rw [e1]; exact hk q h1 h2) (by rw [e1]; exact hb) hd
  obtain ⟨t2, a1, b1⟩ := kk v w1 T'.heap (locs ++ L) hp hJ1 hJ2
    ⟨Nat.le_trans hS.1 (by rw [e1]; exact hz), fun q h1 h2 => by rw [e1, hk q (Nat.lt_of_lt_of_le h1 hS.1) (fun z => h2 (hA q z))]; exact hS.2.1 q h1 h2, fun q hq => by
      rcases List.mem_append.mp hq with h | h
      · exact hS.2.2 q h
      · exact hA _ (hL q h)⟩ T' rfl X'
  exact ⟨t2, st t2 a1, b1⟩
theorem h_callS {y : MethodName} {bytes : ByteArray} {maxL idx n : Nat} {ret : Option FieldType} {rm : Room} {As rest : List Value} {xq : Option (Nat × Nat × (Nat → Int32))} {jn : va_W → va_W}
    (hx : p.tables.exec = Jvm.exec) (hb : c.code = cc) (hml : c.maxLocals = nl) (hown : s.vm.findClass own = some m.cls) (hts : ∀ w ∈ g_WA, w.before args s = true) (hE : g_EV D s) (hZ : g_EZ A s s.heap) (hS : va_S A s.heap H locs) (hl : ls.size = nl)
    (hM : h_M l D y bytes maxL ret rm As xq rs wc post) (hR : va_P D vwCl rs H) (hC : va_P D vwCl wc H) (hA : ∀ q, va_A wc H.size q → A q) (hX : ∀ U : State, U.heap = H → s.vm.Alike U.vm → h_X xq wc U)
    (hJ : ∀ (w1 : va_W) (H1 : Heap), (∀ q, q < H.size → ¬ va_A wc H.size q → H1[q]? = H[q]?) → va_P D vwCl w1 H1 → va_D (va_A wc H.size) w1 → va_P D vwCl (jn w1) H1 ∧ va_D A (jn w1)) (k : g_kS own idx y bytes maxL ret n)
    (hn : As.length = n) (hst : st0 = As.reverse ++ rest) (hRm : rm.frames + 1 ≤ R.frames ∧ 8 + (maxL + 11) + rm.locals ≤ R.locals) (hrest : (rest.map fun v => v.category).sum ≤ 8) (hf : cells + rm.cells ≤ R.cells ∧ slots + rm.slots ≤ R.slots)
    (hdg : decode cc pc = .ok (.invokestatic idx, 3))
    (kk : ∀ (v : Option Value) (w1 : va_W) (H1 : Heap) (locs1 : List Loc), post v w1 → va_P D vwCl (jn w1) H1 → va_D A (jn w1) → va_S A s.heap H1 locs1 → W p l e R s m args below meth c H1 locs1 (cells + rm.cells) (slots + rm.slots) Q (F0 m (pc + 3) ls (v.toList ++ rest))) : W p l e R s m args below meth c H locs cells slots Q (F0 m pc ls st0) := by
  obtain ⟨k1, k2, k4, k5, k6, k7, k8⟩ := k
  have hW : GoodIn g_WA (va_wsS own idx y [Cond.code y bytes maxL ret]) := by
    intro w hw
    simp only [va_wsS, List.cons_append, List.nil_append, List.mem_cons, List.not_mem_nil, or_false] at hw
    rcases hw with rfl | rfl | rfl | rfl <;> exact ⟨by assumption, g_good (by assumption)⟩
  exact h_call (va_runS (As := As) (rest := rest) ⟨hx, hb, hml, hown, hts⟩ (hM H.size) (va_cwS n hts hW rfl rfl rfl ⟨k6, k7, k8⟩ hRm) ⟨h_blind, fun U hU hW => h_pre hE hZ hR hC hS hA hX hU hW⟩ rfl hn hl hst (lv_room hrest) hdg hf) hS hA hJ kk
theorem h_callV {y : MethodName} {bytes : ByteArray} {maxL idx n : Nat} {ret : Option FieldType} {rm : Room} {As rest : List Value} {b q0 ci : Nat} {cl : vw_C} {fs : List Value} {xq : Option (Nat × Nat × (Nat → Int32))} {jn : va_W → va_W} {wr : va_W}
    (hx : p.tables.exec = Jvm.exec) (hb : c.code = cc) (hml : c.maxLocals = nl) (hown : s.vm.findClass own = some m.cls) (hts : ∀ w ∈ g_WA, w.before args s = true) (hE : g_EV D s) (hZ : g_EZ A s s.heap) (hS : va_S A s.heap H locs) (hl : ls.size = nl)
    (hM : h_M l D y bytes maxL ret rm (.ref b :: As) xq rs wc post) (hR : va_P D vwCl rs H) (hC : va_P D vwCl wc H) (hA : ∀ q, va_A wc H.size q → A q) (hX : ∀ U : State, U.heap = H → s.vm.Alike U.vm → h_X xq wc U)
    (hJ : ∀ (w1 : va_W) (H1 : Heap), (∀ q, q < H.size → ¬ va_A wc H.size q → H1[q]? = H[q]?) → va_P D vwCl w1 H1 → va_D (va_A wc H.size) w1 → va_P D vwCl (jn w1) H1 ∧ va_D A (jn w1)) (k : g_kV own idx y bytes maxL ret n)
    (hPr : va_P D vwCl wr H) (hq : wr[q0]? = some (b, .inr (ci, fs))) (hc : vwCl[ci]? = some cl) (hcl : cl.1 = y.cls)
    (hn : As.length = n) (hst : st0 = As.reverse ++ .ref b :: rest) (hRm : rm.frames + 1 ≤ R.frames ∧ 8 + (maxL + 11) + rm.locals ≤ R.locals) (hrest : (rest.map fun v => v.category).sum ≤ 8) (hf : cells + rm.cells ≤ R.cells ∧ slots + rm.slots ≤ R.slots)
    (hdg : decode cc pc = .ok (.invokevirtual idx, 3))
    (kk : ∀ (v : Option Value) (w1 : va_W) (H1 : Heap) (locs1 : List Loc), post v w1 → va_P D vwCl (jn w1) H1 → va_D A (jn w1) → va_S A s.heap H1 locs1 → W p l e R s m args below meth c H1 locs1 (cells + rm.cells) (slots + rm.slots) Q (F0 m (pc + 3) ls (v.toList ++ rest))) : W p l e R s m args below meth c H locs cells slots Q (F0 m pc ls st0) := by
  obtain ⟨k1, k2, k3, k4, k5, k6, k7, k8⟩ := k
  have hW : GoodIn g_WA (wsV own idx y.cls y [Cond.code y bytes maxL ret]) := by
    intro w hw
    simp only [wsV, List.cons_append, List.nil_append, List.mem_cons, List.not_mem_nil, or_false] at hw
    rcases hw with rfl | rfl | rfl | rfl | rfl <;> exact ⟨by assumption, g_good (by assumption)⟩
  refine h_call (va_runV (As := As) (rest := rest) ⟨hx, hb, hml, hown, hts⟩ (hM H.size) (cwV (C := y.cls) n hts hW rfl rfl rfl ⟨rfl, k6, k7, k8⟩ hRm) ⟨h_blind, ?_, fun U hU hW => h_pre hE hZ hR hC hS hA hX hU hW⟩ rfl hn hl hst (lv_room hrest) hdg hf) hS hA hJ kk
  rw [← hcl]
  exact va_recv hE.1 hPr hc hq
theorem h_fin {v : Option Value} {w1 : va_W} {t : State} (hp : post v w1) (hP : va_P D vwCl w1 H) (hD : va_D (va_A ws s.heap.size) w1) (hS : va_S (va_A ws s.heap.size) s.heap H locs) (ht : t.heap = H) : h_Q D ws s.heap.size post a s (.returned v) t :=
  ⟨⟨v, w1, rfl, hp, by rw [ht]; exact hP, hD⟩, hS.F ht⟩
end HOWN
/-- a body, from its entry -/
theorem h_ofW {l : Launch} {D : va_G} {y : MethodName} {cc : ByteArray} {nL : Nat} {ret : Option FieldType} {rm : Room} {av : List Value} {xq : Option (Nat × Nat × (Nat → Int32))} {rs ws : va_W} {post : Option Value → va_W → Prop} (lv : List (Nat × Value)) (hy : plainName y.cls = true) (hn : (lg_sl av).length ≤ nL) (hlv : lv_args 0 av = lv)
    (body : ∀ (p : Program) (e : Env) (s : State) (m : MethodId) (args : Array Value) (below : List Frame) (meth : Method) (c : Code), p.tables.exec = Jvm.exec → c.code = cc → meth.sig.returnType = ret → c.maxLocals = nL → s.vm.findClass y.cls = some m.cls → meth.locks = false → (∀ w ∈ g_WA, w.before args s = true) → g_EV D s → g_EZ (va_A ws s.heap.size) s s.heap → va_P D vwCl rs s.heap → va_P D vwCl ws s.heap → va_S (va_A ws s.heap.size) s.heap s.heap [] → h_X xq ws s → ∀ ls : Array Slot, lv_has ls nL lv →
      W p l e rm s m args below meth c s.heap [] 0 0 (MQ below (h_Q D ws s.heap.size post) args s rm.cells rm.slots (va_A ws s.heap.size)) (F0 m 0 ls [])) : h_M l D y cc nL ret rm av xq rs ws post := by
  intro sz
  refine Met.ofW (cc := cc) (maxL := nL) (ret := ret) hy rfl ?_
  intro p e s m args below meth c s₁ B hml hv
  obtain ⟨rfl, hsz, hR, hP, hE, hZ, hX⟩ := hv
  subst hsz
  have hl := lv_entry av (n := nL) hn
  rw [lg_entry_eq]
  rw [hlv] at hl
  exact body p e s m av.toArray below meth c B.exec B.bytes B.returns hml (findClass_of_methodNamed B.named) B.notSynchronized hE.hts hE hZ hR hP va_S.rf hX _ hl
/-! the class's contracts, so -/
theorem g_AW {D : va_G} {σ : Nat → va_E} {sz : Nat} : g_A D sz = va_A (g_W D σ) sz := by
  funext q
  apply propext
  constructor
  · rintro (⟨k, hk, rfl⟩ | h)
    · exact Or.inl ⟨k, σ k, g_at hk rfl⟩
    · exact Or.inr h
  · rintro (⟨k, e, h⟩ | h)
    · obtain ⟨hk, he⟩ := g_of h
      exact Or.inl ⟨k, hk, congrArg Prod.fst he⟩
    · exact Or.inr h
theorem h_mono {l : Launch} {y : MethodName} {ws : List Cond} {rm : Room} {Pc Pc2 : Array Value → State → Prop} {Qc Qc2 : Array Value → State → Outcome → State → Prop} {mc ms : Nat} {free : Addr → Prop} (h : Met l y ws rm Pc Qc mc ms free) (hp : ∀ a U, Pc2 a U → Pc a U) (hq : ∀ a st o t, Qc a st o t → Qc2 a st o t) : Met l y ws rm Pc2 Qc2 mc ms free := by
  intro p e ha hc hk s m args below hf happ hP hK
  obtain ⟨n, o, h1, h2, h3, h4, L, h5, h6⟩ := h p e ha hc hk s m args below hf happ (hp _ _ hP) hK
  exact ⟨n, o, h1, h2, h3, hq _ _ _ _ h4, L, h5, h6⟩
theorem g_M.h {l : Launch} {D : va_G} {y : MethodName} {cc : ByteArray} {nL : Nat} {ret : Option FieldType} {rm : Room} {av : List Value} {σ : Nat → va_E} {post : Option Value → (Nat → va_E) → Prop} (hAD : g_AD D) (h : g_M l D y cc nL ret rm av σ post) : h_M l D y cc nL ret rm av none [] (g_W D σ) (fun v w1 => ∃ σ1, post v σ1 ∧ w1 = g_W D σ1) := by
  intro sz
  have h2 := h sz
  rw [g_AW (σ := σ)] at h2
  refine h_mono h2 ?_ ?_
  · intro a U hv
    obtain ⟨h0, h1, -, h3, h4, h5, -⟩ := hv
    exact ⟨h0, h1, h3, h4, by rw [g_AW (σ := σ)]; exact h5⟩
  · intro a st oc t hq
    obtain ⟨⟨v, σ', h0, h1, h2⟩, h3⟩ := hq
    exact ⟨⟨v, _, h0, ⟨σ', h1, rfl⟩, h2, by rw [← g_AW]; exact g_Ds hAD⟩, h3⟩
/-- a method that throws nothing here -/
theorem g_X.M {l : Launch} {D : va_G} {y : MethodName} {cc : ByteArray} {nL : Nat} {ret : Option FieldType} {rm : Room} {av : List Value} {σ : Nat → va_E} {post post2 : Option Value → (Nat → va_E) → Prop} {px : String → Prop} (h : g_X l D y cc nL ret rm av σ post px) (hn : ∀ E, ¬ px E) (h2 : ∀ v σ1, post v σ1 → post2 v σ1) : g_M l D y cc nL ret rm av σ post2 := by
  intro sz p e ha hc hk s m args below hf happ hP hK
  obtain ⟨n, o, h1, h2', h3, hQ⟩ := h sz p e ha hc hk s m args below hf happ hP hK
  rcases hQ with ⟨⟨⟨v, σ', g1, g2, g3⟩, g4⟩, g5⟩ | ⟨q, ho, E, ce, L, ⟨hx1, -⟩, -⟩
  · exact ⟨n, o, h1, h2', h3, ⟨⟨v, σ', g1, h2 _ _ g2, g3⟩, g4⟩, g5⟩
  · exact absurd hx1 (hn E)
theorem g_Y.M {l : Launch} {D : va_G} {y : MethodName} {cc : ByteArray} {nL : Nat} {ret : Option FieldType} {rm : Room} {av : List Value} {σ : Nat → va_E} {post post2 : Option Value → (Nat → va_E) → Prop} {px : String → (Nat → va_E) → Prop} (h : g_Y l D y cc nL ret rm av σ post px) (hn : ∀ E σ1, ¬ px E σ1) (h2 : ∀ v σ1, post v σ1 → post2 v σ1) : g_M l D y cc nL ret rm av σ post2 := by
  intro sz p e ha hc hk s m args below hf happ hP hK
  obtain ⟨n, o, h1, h2', h3, hQ⟩ := h sz p e ha hc hk s m args below hf happ hP hK
  rcases hQ with ⟨⟨⟨v, σ', g1, g2, g3⟩, g4⟩, g5⟩ | ⟨q, ho, E, ce, L, ⟨σ', hx1, -⟩, -⟩
  · exact ⟨n, o, h1, h2', h3, ⟨⟨v, σ', g1, h2 _ _ g2, g3⟩, g4⟩, g5⟩
  · exact absurd hx1 (hn E σ')
/-! ROWS OF INTS, rows of rows -/
def h_row (D : va_G) (R : List Int32) : va_E := .inl (g_cI D, R.length, .inl (fun j => R.getD j 0))
def h_out (D : va_G) (q : Nat → Nat) (o : Nat) : va_E := .inl (g_cA D, 2, .inr (.inr (.inr (.inr (fun j => if j < 2 then some (q (o + j)) else none)))))
/-- the law's own two woods: the object, its two rows of rows, the names' rows, the miles' rows -/
def h_SW (D : va_G) (q : Nat → Nat) (N M : Nat → List Int32) : va_W := [(q 0, .inr (3, [.ref (q 1), .ref (q 2)])), (q 1, h_out D q 3), (q 2, h_out D q 5), (q 3, h_row D (N 0)), (q 4, h_row D (N 1)), (q 5, h_row D (M 0)), (q 6, h_row D (M 1))]
theorem h_SWn {D : va_G} {q : Nat → Nat} {N M : Nat → List Int32} {w : Nat} (hw : w ≤ 1) : (h_SW D q N M)[3 + w]? = some (q (3 + w), h_row D (N w)) := by
  rcases (show w = 0 ∨ w = 1 by omega) with rfl | rfl <;> rfl
theorem h_SWm {D : va_G} {q : Nat → Nat} {N M : Nat → List Int32} {w : Nat} (hw : w ≤ 1) : (h_SW D q N M)[5 + w]? = some (q (5 + w), h_row D (M w)) := by
  rcases (show w = 0 ∨ w = 1 by omega) with rfl | rfl <;> rfl
theorem h_xi {w xs : va_W} {k : Nat} {q : Nat × va_E} (hk : xs[k]? = some q) : (w ++ xs)[w.length + k]? = some q := by
  rw [List.getElem?_append_right (by omega), Nat.add_sub_cancel_left]; exact hk
theorem h_xs {w xs : va_W} {k : Nat} {z : Nat × va_E} : (w ++ xs).set (w.length + k) z = w ++ xs.set k z := by
  rw [List.set_append_right (h := by omega), Nat.add_sub_cancel_left]
theorem h_set {R : List Int32} {j : Nat} {x : Int32} (hj : j < R.length) : upd (fun i => R.getD i 0) j x = fun i => (R.set j x).getD i 0 := by
  funext i
  simp only [upd, List.getD_eq_getElem?_getD]
  by_cases e : i = j
  · subst e; simp [hj]
  · rw [if_neg e, List.getElem?_set_ne (Ne.symm e)]
theorem h_rep {n : Nat} : (fun _ => (0 : Int32)) = fun i => (List.replicate n (0 : Int32)).getD i 0 := by
  funext i
  simp only [List.getD_eq_getElem?_getD, List.getElem?_replicate]
  split <;> rfl
theorem h_row_rep {D : va_G} {n : Nat} : (.inl (g_cI D, n, .inl (fun _ => 0)) : va_E) = h_row D (List.replicate n 0) := by
  unfold h_row
  rw [List.length_replicate, h_rep (n := n)]
theorem h_row_set {D : va_G} {R : List Int32} {j : Nat} {x : Int32} (hj : j < R.length) : (.inl (g_cI D, R.length, .inl (upd (fun i => R.getD i 0) j x)) : va_E) = h_row D (R.set j x) := by
  unfold h_row
  rw [List.length_set, h_set hj]
theorem h_out_up {D : va_G} {q : Nat → Nat} {o j v : Nat} (hj : j < 2) : (.inl (g_cA D, 2, .inr (.inr (.inr (.inr (va_up (fun i => if i < 2 then some (q (o + i)) else none) j (some v)))))) : va_E) = h_out D (va_up q (o + j) v) o := by
  unfold h_out
  refine congrArg (fun z => (.inl (g_cA D, 2, .inr (.inr (.inr (.inr z)))) : va_E)) (funext fun i => ?_)
  by_cases e : i = j
  · subst e; simp [va_up, hj]
  · have : o + i ≠ o + j := by omega
    simp [va_up, e, this]
section HROWS
variable {p : Program} {l : Launch} {e : Env} {R0 : Room} {s : State} {m : MethodId} {args : Array Value} {below : List Frame} {meth : Method} {c : Code} {H : Heap} {locs : List Loc} {cells slots : Nat} {Q : State → Prop}
variable {D : va_G} {pc : Nat} {ls : Array Slot} {rest st0 : List Value} {cc : ByteArray} {own : String} {A : Nat → Prop} {w xs : va_W}
theorem h_ild (hx : p.tables.exec = Jvm.exec) (hb : c.code = cc) (hE : g_EV D s) (hP : va_P D vwCl (w ++ xs) H) {i a j : Nat} {R : List Int32} (hi : xs[i]? = some (a, h_row D R)) (hj : j < R.length) (hn : R.length < 2 ^ 31) {v : Int32} (hv : R.getD j 0 = v) (hdg : decode cc pc = .ok (.iaload, 1))
    (kk : W p l e R0 s m args below meth c H locs cells slots Q (F0 m (pc + 1) ls (.int v :: rest))) : W p l e R0 s m args below meth c H locs cells slots Q (F0 m pc ls (.int (nI j) :: .ref a :: rest)) := by
  refine va_iald (D := D) hx hb hE.1 hP (w.length + i) 0 (h_xi hi) rfl (vp_in_nI hj hn) hdg ?_
  rw [nI_clamp (Nat.lt_trans hj hn)]
  show W p l e R0 s m args below meth c H locs cells slots Q (F0 m (pc + 1) ls (.int (R.getD j 0) :: rest))
  rw [hv]
  exact kk
theorem h_aln (hx : p.tables.exec = Jvm.exec) (hb : c.code = cc) (hE : g_EV D s) (hP : va_P D vwCl (w ++ xs) H) {i a : Nat} {R : List Int32} (hi : xs[i]? = some (a, h_row D R)) (hdg : decode cc pc = .ok (.arraylength, 1))
    (kk : W p l e R0 s m args below meth c H locs cells slots Q (F0 m (pc + 1) ls (.int (nI R.length) :: rest))) : W p l e R0 s m args below meth c H locs cells slots Q (F0 m pc ls (.ref a :: rest)) :=
  va_alen (D := D) hx hb hE.1 hP (w.length + i) 0 (h_xi hi) (ty := .int) rfl (v := nI R.length) rfl hdg kk
theorem h_ist (hx : p.tables.exec = Jvm.exec) (hb : c.code = cc) (hE : g_EV D s) (hP : va_P D vwCl (w ++ xs) H) (hD : va_D A (w ++ xs)) (hS : va_S A s.heap H locs) {i a j : Nat} {R : List Int32} (hi : xs[i]? = some (a, h_row D R)) (hj : j < R.length) (hn : R.length < 2 ^ 31) {x : Int32} (hdg : decode cc pc = .ok (.iastore, 1))
    (kk : ∀ (H1 : Heap) (locs1 : List Loc), va_P D vwCl (w ++ xs.set i (a, h_row D (R.set j x))) H1 → va_D A (w ++ xs.set i (a, h_row D (R.set j x))) → va_S A s.heap H1 locs1 → W p l e R0 s m args below meth c H1 locs1 cells slots Q (F0 m (pc + 1) ls rest)) : W p l e R0 s m args below meth c H locs cells slots Q (F0 m pc ls (.int x :: .int (nI j) :: .ref a :: rest)) := by
  have e1 : (nI j).toNatClampNeg = j := nI_clamp (by omega)
  refine va_iast (D := D) hx hb hE.1 hP hD hS (w.length + i) 0 (h_xi hi) rfl (vp_in_nI hj hn) hdg (fun H1 locs1 hP1 hD1 hS1 => kk H1 locs1 ?_ ?_ hS1)
  · rw [e1] at hP1; rw [← h_xs, ← h_row_set hj]; exact hP1
  · rw [e1] at hD1; rw [← h_xs, ← h_row_set hj]; exact hD1
theorem h_new (hx : p.tables.exec = Jvm.exec) (hb : c.code = cc) (hts : ∀ w ∈ g_WA, w.before args s = true) (hE : g_EV D s) (hP : va_P D vwCl (w ++ xs) H) (hD : va_D A (w ++ xs)) (hS : va_S A s.heap H locs) (hA : ∀ q, s.heap.size ≤ q → A q) {n : Nat} (hn : n < 2 ^ 20) (hcells : cells + 1 ≤ R0.cells) (hslots : slots + n ≤ R0.slots) (hdg : decode cc pc = .ok (.newarray .int, 2))
    (kk : ∀ (q : Nat) (H1 : Heap), va_P D vwCl (w ++ (xs ++ [(q, h_row D (List.replicate n 0))])) H1 → va_D A (w ++ (xs ++ [(q, h_row D (List.replicate n 0))])) → va_S A s.heap H1 locs → W p l e R0 s m args below meth c H1 locs (cells + 1) (slots + n) Q (F0 m (pc + 2) ls (.ref q :: rest))) : W p l e R0 s m args below meth c H locs cells slots Q (F0 m pc ls (.int (nI n) :: rest)) := by
  refine va_newa (D := D) (tys := g_tys D) hx hb (hts _ (g_mem 49 (by decide +kernel))) (ty := .int) rfl hE.1 hP hD hS hA (a0 := (n, .inl (fun _ => 0))) (fun _ => rfl) (nI_pos (by omega)) (nI_clamp (by omega)) ?_ hcells hslots hdg (fun q cA H1 hK hP1 hD1 hS1 => ?_)
  · show n * 4 ≤ 536870912
    omega
  · have e1 := (hK.2 1 (cA, .int) rfl).2
    have e2 := (hE.1.2 0 (g_cI D, .int) rfl).2
    have e3 : cA = g_cI D := Option.some.inj ((show s.vm.findClass _ = some cA from e1).symm.trans e2)
    subst e3
    rw [h_row_rep, List.append_assoc] at hP1 hD1
    exact kk q H1 hP1 hD1 hS1
theorem h_get {index : Nat} (hx : p.tables.exec = Jvm.exec) (hb : c.code = cc) (hts : ∀ w ∈ g_WA, w.before args s = true) (hE : g_EV D s) (hown : s.vm.findClass own = some m.cls) (hP : va_P D vwCl (w ++ xs) H) {i a : Nat} {fs : List Value} (hi : xs[i]? = some (a, .inr (3, fs))) (k : Nat) (hk : k < 2) (hT : (TX3 k).1 = RX3) (hlink : Cond.fieldLink own index RX3 (TX3 k).2.1 (TX3 k).2.2.1 ∈ g_WA) {v : Value} (hv : fs[k]? = some v) (hdg : decode cc pc = .ok (.getfield index, 3))
    (kk : W p l e R0 s m args below meth c H locs cells slots Q (F0 m (pc + 3) ls (v :: rest))) : W p l e R0 s m args below meth c H locs cells slots Q (F0 m pc ls (.ref a :: rest)) :=
  va_get (D := D) (tys := g_tys D) (C := RX3) (T := TX3) (N := 2) hx hb hts g_inX3 hown hE.1 hP (w.length + i) (h_xi hi) rfl k hk (hts _ hlink) (fun _ h => by rw [hT] at h; exact h) hv hdg kk
theorem h_isA {q : Nat → Nat} {o n : Nat} {f : Nat → Value} (hE : g_EV D s) : s.isArrayOf (arrV (g_cA D) n f) (.array .int) := by
  obtain ⟨kA, k1, k2, -⟩ := hE.2.2.2.2
  exact ⟨(fun k h => by cases h), kA, k1, _, k2⟩
theorem h_ald (hx : p.tables.exec = Jvm.exec) (hb : c.code = cc) (hE : g_EV D s) (hP : va_P D vwCl (w ++ xs) H) {i a j o : Nat} {q : Nat → Nat} (hi : xs[i]? = some (a, h_out D q o)) (hj : j < 2) (hdg : decode cc pc = .ok (.aaload, 1))
    (kk : W p l e R0 s m args below meth c H locs cells slots Q (F0 m (pc + 1) ls (.ref (q (o + j)) :: rest))) : W p l e R0 s m args below meth c H locs cells slots Q (F0 m pc ls (.int (nI j) :: .ref a :: rest)) := by
  have e1 : (nI j).toNatClampNeg = j := nI_clamp (by omega)
  exact W.aald (v := .ref (q (o + j))) (ty := .array .int) hx hb (hP _ _ (h_xi hi)) (h_isA (q := q) (o := o) hE) rfl (fun q => by cases q) (by show ¬ (nI j < 0 ∨ (arrV _ _ _).slots.size ≤ _); rw [arrV_size]; exact vp_in_nI hj (show (2 : Nat) < 2 ^ 31 by decide)) (by show (arrV _ _ _).slots[_]? = _; rw [e1, arrV_read _ _ hj]; simp [hj, va_rf]) rfl rfl hdg kk
/-- an int row into a row of rows -/
theorem h_astF (hx : p.tables.exec = Jvm.exec) (hb : c.code = cc) (hE : g_EV D s) (hP : va_P D vwCl (w ++ xs) H) (hD : va_D A (w ++ xs)) (hS : va_S A s.heap H locs) {i i2 a j v : Nat} {f : Nat → Option Nat} {R : List Int32} (hi : xs[i]? = some (a, .inl (g_cA D, 2, .inr (.inr (.inr (.inr f)))))) (hj : j < 2) (hi2 : xs[i2]? = some (v, h_row D R)) (hdg : decode cc pc = .ok (.aastore, 1))
    (kk : ∀ (H1 : Heap) (locs1 : List Loc), va_P D vwCl (w ++ xs.set i (a, .inl (g_cA D, 2, .inr (.inr (.inr (.inr (va_up f j (some v)))))))) H1 → va_D A (w ++ xs.set i (a, .inl (g_cA D, 2, .inr (.inr (.inr (.inr (va_up f j (some v)))))))) → va_S A s.heap H1 locs1 → W p l e R0 s m args below meth c H1 locs1 cells slots Q (F0 m (pc + 1) ls rest)) : W p l e R0 s m args below meth c H locs cells slots Q (F0 m pc ls (.ref v :: .int (nI j) :: .ref a :: rest)) := by
  have e1 : (nI j).toNatClampNeg = j := nI_clamp (by omega)
  obtain ⟨kA, k1, k2, -⟩ := hE.2.2.2.2
  obtain ⟨-, kI, hkI, -⟩ := (hE.1.2 0 (g_cI D, .int) rfl).1 0 (fun _ => .null)
  refine W.aast hx hb (hP _ _ (h_xi hi)) (fun q h => by cases h) (fun h => by cases h) k1 k2 rfl hkI ⟨nI_pos (by omega), by show _ < (arrV _ _ _).slots.size; rw [arrV_size, e1]; exact hj⟩ (hP _ _ (h_xi hi2)) (fun q h => by cases h) hkI (va_asg _ _) rfl rfl hdg fun H1 e z oq => ?_
  have hat : va_at D vwCl (a, .inl (g_cA D, 2, .inr (.inr (.inr (.inr (va_up f j (some v))))))) H1 := by
    show H1[a]? = some (vp_cell _ _)
    rw [e, e1]
    rw [vp_cell_q, vp_cell_q, arrV_store]
    congr 2
    funext q
    by_cases hq : q = j
    · subst hq
      simp [updV, va_up, va_rf]
    · simp [updV, va_up, hq]
  exact kk H1 _ (by rw [← h_xs]; exact hP.set hD (h_xi hi) hat oq) (by rw [← h_xs]; exact hD.set (h_xi hi)) (hS.put z oq (hD.2 _ _ (h_xi hi)))
theorem h_ast (hx : p.tables.exec = Jvm.exec) (hb : c.code = cc) (hE : g_EV D s) (hP : va_P D vwCl (w ++ xs) H) (hD : va_D A (w ++ xs)) (hS : va_S A s.heap H locs) {i i2 a j v o : Nat} {q : Nat → Nat} {R : List Int32} (hi : xs[i]? = some (a, h_out D q o)) (hj : j < 2) (hi2 : xs[i2]? = some (v, h_row D R)) (hdg : decode cc pc = .ok (.aastore, 1))
    (kk : ∀ (H1 : Heap) (locs1 : List Loc), va_P D vwCl (w ++ xs.set i (a, h_out D (va_up q (o + j) v) o)) H1 → va_D A (w ++ xs.set i (a, h_out D (va_up q (o + j) v) o)) → va_S A s.heap H1 locs1 → W p l e R0 s m args below meth c H1 locs1 cells slots Q (F0 m (pc + 1) ls rest)) : W p l e R0 s m args below meth c H locs cells slots Q (F0 m pc ls (.ref v :: .int (nI j) :: .ref a :: rest)) := by
  refine h_astF hx hb hE hP hD hS hi hj hi2 hdg (fun H1 locs1 h1 h2 h3 => kk H1 locs1 ?_ ?_ h3)
  · rw [← h_out_up hj]; exact h1
  · rw [← h_out_up hj]; exact h2
theorem h_nwA {index : Nat} (hx : p.tables.exec = Jvm.exec) (hb : c.code = cc) (hts : ∀ w ∈ g_WA, w.before args s = true) (hE : g_EV D s) (hown : s.vm.findClass own = some m.cls) (hlink : Cond.classLink own index (FieldType.array .int).toString ∈ g_WA) (hover : Cond.arrayOver (.array .int) ∈ g_WA) (hP : va_P D vwCl (w ++ xs) H) (hD : va_D A (w ++ xs)) (hS : va_S A s.heap H locs) (hA : ∀ q, s.heap.size ≤ q → A q) (hcells : cells + 1 ≤ R0.cells) (hslots : slots + 2 ≤ R0.slots) (hdg : decode cc pc = .ok (.anewarray index, 3))
    (kk : ∀ (q : Nat) (H1 : Heap), va_P D vwCl (w ++ (xs ++ [(q, .inl (g_cA D, 2, .inr (.inr (.inr (.inr (fun _ => none))))))])) H1 → va_D A (w ++ (xs ++ [(q, .inl (g_cA D, 2, .inr (.inr (.inr (.inr (fun _ => none))))))])) → va_S A s.heap H1 locs → W p l e R0 s m args below meth c H1 locs (cells + 1) (slots + 2) Q (F0 m (pc + 3) ls (.ref q :: rest))) : W p l e R0 s m args below meth c H locs cells slots Q (F0 m pc ls (.int (nI 2) :: rest)) := by
  have e1 : (nI 2).toNatClampNeg = 2 := nI_clamp (by decide)
  refine W.anewA hx hb hown (hts _ hlink) (hts _ hover) rfl hdg rfl (nI_pos (by decide)) (by rw [e1]; decide) hcells (by rw [e1]; exact hslots) fun cA kA comp f1 f2 f3 f4 => ?_
  rw [e1]
  obtain ⟨-, -, -, g3⟩ := hE.2.2.2.2
  have e3 : cA = g_cA D := Option.some.inj (f1.symm.trans g3)
  subst e3
  generalize hH1 : H.push ({ cls := g_cA D, slots := Array.replicate 2 .null, vm := .none } : Cell) = H1
  have z1 : H1.size = H.size + 1 := by rw [← hH1, Array.size_push]
  have e1 : H1[H.size]? = some (arrV (g_cA D) 2 (fun _ => .null)) := by rw [← hH1, Array.getElem?_push_size, ← arrV_new]
  have o1 : ∀ q : Nat, q < H.size → H1[q]? = H[q]? := fun q hq => by rw [← hH1, Array.getElem?_push, if_neg (Nat.ne_of_lt hq)]
  have hk : ∀ (k : Nat) (x : Nat × va_E), (w ++ xs)[k]? = some x → H1[x.1]? = H[x.1]? := fun k x hx => o1 x.1 ((hP k x hx).lt)
  refine kk H.size H1 ?_ ?_ ⟨Nat.le_trans hS.1 (by omega), fun x h1 h2 => (o1 x (Nat.lt_of_lt_of_le h1 hS.1)).trans (hS.2.1 x h1 h2), hS.2.2⟩
  · rw [← List.append_assoc]
    refine (hP.kept hk).app (fun k x hx => ?_)
    have hz : k < 1 := (List.getElem?_eq_some_iff.mp hx).1
    rw [show k = 0 by omega] at hx
    cases hx
    show H1[H.size]? = some (vp_cell _ _)
    rw [vp_cell_q]
    exact e1
  · rw [← List.append_assoc]
    exact hD.push hP rfl (hA _ hS.1)
theorem h_cln {index : Nat} (hx : p.tables.exec = Jvm.exec) (hb : c.code = cc) (hml : c.maxLocals = ls.size) (hown : s.vm.findClass own = some m.cls) (hts : ∀ w ∈ g_WA, w.before args s = true) (hlink : Cond.methodLink own index ⟨"[I", "clone", "()Ljava/lang/Object;"⟩ ∈ g_WA) (h4 : Cond.sameMethod "[I" "java/lang/Object" "clone" "()Ljava/lang/Object;" ∈ g_WA ∧ Cond.native ⟨"java/lang/Object", "clone", "()Ljava/lang/Object;"⟩ ∈ g_WA ∧ Cond.instanceMethod ⟨"java/lang/Object", "clone", "()Ljava/lang/Object;"⟩ ∈ g_WA ∧ Cond.selects "[I" ⟨"[I", "clone", "()Ljava/lang/Object;"⟩ ⟨"java/lang/Object", "clone", "()Ljava/lang/Object;"⟩ ∈ g_WA) (hE : g_EV D s) (hP : va_P D vwCl (w ++ xs) H) (hD : va_D A (w ++ xs)) (hS : va_S A s.heap H locs) (hA : ∀ q, s.heap.size ≤ q → A q) {i a : Nat} {R : List Int32} (hi : xs[i]? = some (a, h_row D R)) (hfr : 1 ≤ R0.frames ∧ (rest.map fun v => v.category).sum + 14 ≤ R0.locals) (hcells : cells + 1 ≤ R0.cells) (hslots : slots + R.length ≤ R0.slots) (hdg : decode cc pc = .ok (.invokevirtual index, 3))
    (kk : ∀ (q : Nat) (H1 : Heap), va_P D vwCl (w ++ (xs ++ [(q, h_row D R)])) H1 → va_D A (w ++ (xs ++ [(q, h_row D R)])) → va_S A s.heap H1 locs → W p l e R0 s m args below meth c H1 locs (cells + 1) (slots + R.length) Q (F0 m (pc + 3) ls (.ref q :: rest))) : W p l e R0 s m args below meth c H locs cells slots Q (F0 m pc ls (.ref a :: rest)) := by
  refine va_clone (D := D) (tys := g_tys D) hx hb hml hown (hts _ hlink) (hts _ h4.1) (hts _ h4.2.1) (hts _ h4.2.2.1) (hts _ h4.2.2.2) (hE.2.2.1 _ (by simp [g_NL])) hE.1 hP hD hS hA (w.length + i) 0 (h_xi hi) rfl (va_nm_int (hE.1.2 0 (g_cI D, .int) rfl).2) (va_fit (fun _ _ => rfl)) hfr.1 hfr.2 hcells hslots hdg (fun q H1 _ hP1 hD1 hS1 => ?_)
  rw [List.append_assoc] at hP1 hD1
  exact kk q H1 hP1 hD1 hS1
theorem h_cst {index : Nat} (hx : p.tables.exec = Jvm.exec) (hb : c.code = cc) (hown : s.vm.findClass own = some m.cls) (hts : ∀ w ∈ g_WA, w.before args s = true) (hlink : Cond.classLink own index "[I" ∈ g_WA) (hE : g_EV D s) (hP : va_P D vwCl (w ++ xs) H) {i a : Nat} {R : List Int32} (hi : xs[i]? = some (a, h_row D R)) (hdg : decode cc pc = .ok (.checkcast index, 3))
    (kk : W p l e R0 s m args below meth c H locs cells slots Q (F0 m (pc + 3) ls (.ref a :: rest))) : W p l e R0 s m args below meth c H locs cells slots Q (F0 m pc ls (.ref a :: rest)) :=
  va_castA hx hb hown (hts _ hlink) hP (w.length + i) (h_xi hi) (va_nm_int (hE.1.2 0 (g_cI D, .int) rfl).2) hdg kk
/-- System.arraycopy out of a row that is only read -/
theorem h_cpy {index : Nat} (hx : p.tables.exec = Jvm.exec) (hb : c.code = cc) (hml : c.maxLocals = ls.size) (hown : s.vm.findClass own = some m.cls) (hts : ∀ w ∈ g_WA, w.before args s = true) (hlink : Cond.methodLink own index arraycopyName ∈ g_WA) (h3 : Cond.native arraycopyName ∈ g_WA ∧ Cond.static arraycopyName ∈ g_WA ∧ Cond.initialized "java/lang/System" ∈ g_WA) (hE : g_EV D s) (hP : va_P D vwCl (w ++ xs) H) (hD : va_D A (w ++ xs)) (hS : va_S A s.heap H locs) {rs : va_W} {i0 a0 i1 a1 n0 n1 : Nat} {f g : Nat → Int32} (hR : va_P D vwCl rs s.heap) (hi0 : rs[i0]? = some (a0, .inl (g_cI D, n0, .inl f))) (hA0 : ¬ A a0) (hi1 : xs[i1]? = some (a1, .inl (g_cI D, n1, .inl g))) {sp dp n : Nat} (h31 : sp < 2 ^ 31 ∧ dp < 2 ^ 31 ∧ n < 2 ^ 31) (h4 : sp + n ≤ n0) (h5 : dp + n ≤ n1) (hRm : 1 ≤ R0.frames ∧ (rest.map fun v => v.category).sum + 60 ≤ R0.locals) (hdg : decode cc pc = .ok (.invokestatic index, 3))
    (kk : ∀ (H1 : Heap) (locs1 : List Loc), va_P D vwCl (w ++ xs.set i1 (a1, .inl (g_cI D, n1, .inl (va_cpy f g sp dp n)))) H1 → va_D A (w ++ xs.set i1 (a1, .inl (g_cI D, n1, .inl (va_cpy f g sp dp n)))) → va_S A s.heap H1 locs1 → W p l e R0 s m args below meth c H1 locs1 cells slots Q (F0 m (pc + 3) ls rest)) : W p l e R0 s m args below meth c H locs cells slots Q (F0 m pc ls (.int (nI n) :: .int (nI dp) :: .ref a1 :: .int (nI sp) :: .ref a0 :: rest)) := by
  have e1 : (nI sp).toNatClampNeg = sp := nI_clamp h31.1
  have e2 : (nI dp).toNatClampNeg = dp := nI_clamp h31.2.1
  have e3 : (nI n).toNatClampNeg = n := nI_clamp h31.2.2
  have hat := hR _ _ hi0
  have hX : va_X a0 n0 f s s.heap := ⟨_, hat, (hE.1.2 0 (g_cI D, .int) rfl).1 n0 (fun j => .int (f j)), (fun h => by cases h), arrV_size _ _ _, fun j hj => arrV_read _ _ hj⟩
  refine va_copyx (D := D) (tys := g_tys D) hx hb hml hown (hts _ hlink) (hts _ h3.1) (hts _ h3.2.1) (hts _ h3.2.2) hE.1 hP hD hS hX hat.lt hA0 (w.length + i1) 0 (h_xi hi1) rfl (nI_pos h31.1) (nI_pos h31.2.1) (nI_pos h31.2.2) (by rw [e1, e3]; exact h4) (by rw [e2, e3]; exact h5) hRm.1 ?_ hdg (fun H1 locs1 hP1 hD1 hS1 => kk H1 locs1 ?_ ?_ hS1)
  · refine Nat.le_trans ?_ hRm.2
    exact Nat.add_le_add_left (by decide +kernel) _
  · rw [← h_xs, ← e1, ← e2, ← e3]; exact hP1
  · rw [← h_xs, ← e1, ← e2, ← e3]; exact hD1
end HROWS
