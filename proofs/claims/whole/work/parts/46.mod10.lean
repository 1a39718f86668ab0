/-! WORLDS WITH CELLS OF ONE'S OWN -/
theorem g_Wl {D : va_G} {σ : Nat → va_E} : (g_W D σ).length = 33 := by simp [g_W]
theorem g_xl {D : va_G} {σ : Nat → va_E} {xs : va_W} {H : Heap} (h : va_P D vwCl (g_W D σ ++ xs) H) : va_P D vwCl (g_W D σ) H := fun k q hk => h k q (by rw [List.getElem?_append_left (List.getElem?_eq_some_iff.mp hk).1]; exact hk)
theorem g_xi {D : va_G} {σ : Nat → va_E} {xs : va_W} {k : Nat} {q : Nat × va_E} (hk : xs[k]? = some q) : (g_W D σ ++ xs)[33 + k]? = some q := by
  rw [List.getElem?_append_right (by rw [g_Wl]; omega), g_Wl, Nat.add_sub_cancel_left]; exact hk
theorem g_xj {D : va_G} {σ : Nat → va_E} {xs : va_W} {k : Nat} (hk : k < 33) : (g_W D σ ++ xs)[k]? = some (ad_ D k, σ k) := by
  rw [List.getElem?_append_left (by rw [g_Wl]; exact hk)]; exact g_at hk rfl
theorem g_xr {D : va_G} {σ : Nat → va_E} {xs : va_W} {H : Heap} (h : va_P D vwCl (g_W D σ ++ xs) H) : va_P D vwCl xs H := fun k q hk => h (33 + k) q (g_xi hk)
theorem g_xD {D : va_G} {σ σ' : Nat → va_E} {xs : va_W} {A : Nat → Prop} (h : va_D A (g_W D σ ++ xs)) : va_D A (g_W D σ' ++ xs) := by
  have tr : ∀ (i : Nat) (p : Nat × va_E), (g_W D σ' ++ xs)[i]? = some p → ∃ p' : Nat × va_E, (g_W D σ ++ xs)[i]? = some p' ∧ p'.1 = p.1 := by
    intro i p hp
    by_cases hi : i < 33
    · rw [g_xj hi] at hp
      cases hp
      exact ⟨_, g_xj hi, rfl⟩
    · rw [List.getElem?_append_right (by rw [g_Wl]; omega), g_Wl] at hp
      exact ⟨p, by rw [List.getElem?_append_right (by rw [g_Wl]; omega), g_Wl]; exact hp, rfl⟩
  refine ⟨fun i j p q hp hq e => ?_, fun k q hq => ?_⟩
  · obtain ⟨p', hp', e1⟩ := tr i p hp
    obtain ⟨q', hq', e2⟩ := tr j q hq
    exact h.1 i j p' q' hp' hq' (by rw [e1, e2, e])
  · obtain ⟨q', hq', e2⟩ := tr k q hq
    rw [← e2]; exact h.2 k q' hq'
theorem g_xk {D : va_G} {σ σ' : Nat → va_E} {xs : va_W} {H H1 : Heap} {A : Nat → Prop} (hP : va_P D vwCl (g_W D σ ++ xs) H) (hD : va_D A (g_W D σ ++ xs)) (hP1 : va_P D vwCl (g_W D σ') H1) (hf : ∀ q, q < H.size → ¬ g_A D H.size q → H1[q]? = H[q]?) : va_P D vwCl (g_W D σ' ++ xs) H1 := by
  refine hP1.app ((g_xr hP).kept (fun k q hk => ?_))
  have hlt := ((g_xr hP) k q hk).lt
  refine hf q.1 hlt ?_
  rintro (⟨j, hj, e⟩ | z)
  · have := hD.1 (33 + k) j q _ (g_xi hk) (g_xj hj) e
    omega
  · omega
section GX10
variable {p : Program} {l : Launch} {e : Env} {R : Room} {s : State} {m : MethodId} {args : Array Value} {below : List Frame} {meth : Method} {c : Code} {H : Heap} {locs : List Loc} {cells slots : Nat} {Q : State → Prop}
variable {D : va_G} {σ : Nat → va_E} {pc : Nat} {ls : Array Slot} {rest st0 : List Value} {a : Array Value} {post : Option Value → (Nat → va_E) → Prop} {mc ms : Nat} {cc : ByteArray} {nl : Nat} {own : String} {xs ws : va_W}
theorem g_newI (hx : p.tables.exec = Jvm.exec) (hb : c.code = cc) (hts : ∀ w ∈ g_WA, w.before args s = true) (hE : g_EV D s) (hP : va_P D vwCl ws H) (hD : va_D (g_A D s.heap.size) ws) (hS : va_S (g_A D s.heap.size) s.heap H locs) {n : Nat} (hn : n < 2 ^ 20) (hcells : cells + 1 ≤ R.cells) (hslots : slots + n ≤ R.slots) (hdg : decode cc pc = .ok (.newarray .int, 2))
    (kk : ∀ (q : Nat) (H1 : Heap), va_P D vwCl (ws ++ [(q, .inl (g_cI D, n, .inl (fun _ => 0)))]) H1 → va_D (g_A D s.heap.size) (ws ++ [(q, .inl (g_cI D, n, .inl (fun _ => 0)))]) → va_S (g_A D s.heap.size) s.heap H1 locs → W p l e R s m args below meth c H1 locs (cells + 1) (slots + n) Q (F0 m (pc + 2) ls (.ref q :: rest))) : W p l e R s m args below meth c H locs cells slots Q (F0 m pc ls (.int (nI n) :: rest)) := by
  refine va_newa (D := D) (tys := g_tys D) hx hb (hts _ (g_mem 69 (by decide +kernel))) (ty := .int) rfl hE.1 hP hD hS g_Asz (a0 := (n, .inl (fun _ => 0))) (fun _ => rfl) (nI_pos (by omega)) (nI_clamp (by omega)) ?_ hcells hslots hdg (fun q cA H1 hK hP1 hD1 hS1 => ?_)
  · show n * 4 ≤ 536870912
    omega
  · have e1 := (hK.2 3 (cA, .int) rfl).2
    have e2 := (hE.1.2 0 (g_cI D, .int) rfl).2
    have e3 : cA = g_cI D := Option.some.inj ((show s.vm.findClass _ = some cA from e1).symm.trans e2)
    subst e3
    exact kk q H1 hP1 hD1 hS1
/-- System.arraycopy from the cell q0 to one's own cell i -/
theorem g_copyX {index : Nat} (hx : p.tables.exec = Jvm.exec) (hb : c.code = cc) (hml : c.maxLocals = ls.size) {own : String} (hown : s.vm.findClass own = some m.cls) (hts : ∀ w ∈ g_WA, w.before args s = true) (hlink : Cond.methodLink own index arraycopyName ∈ g_WA) (h3 : Cond.native arraycopyName ∈ g_WA ∧ Cond.static arraycopyName ∈ g_WA ∧ Cond.initialized "java/lang/System" ∈ g_WA) (hE : g_EV D s) (hP : va_P D vwCl (g_W D σ ++ xs) H) (hD : va_D (g_A D s.heap.size) (g_W D σ ++ xs)) (hS : va_S (g_A D s.heap.size) s.heap H locs) {q0 i q1 n0 n1 : Nat} {f g : Nat → Int32} (hq0 : q0 < 33) (hσ0 : σ q0 = .inl (g_cI D, n0, .inl f)) (hx1 : xs[i]? = some (q1, .inl (g_cI D, n1, .inl g))) {sp dp n : Nat} (h31 : sp < 2 ^ 31 ∧ dp < 2 ^ 31 ∧ n < 2 ^ 31) (h4 : sp + n ≤ n0) (h5 : dp + n ≤ n1) (hR : 1 ≤ R.frames ∧ (rest.map fun v => v.category).sum + 60 ≤ R.locals) (hdg : decode cc pc = .ok (.invokestatic index, 3))
    (kk : ∀ (H1 : Heap) (locs1 : List Loc), va_P D vwCl (g_W D σ ++ xs.set i (q1, .inl (g_cI D, n1, .inl (va_cpy f g sp dp n)))) H1 → va_D (g_A D s.heap.size) (g_W D σ ++ xs.set i (q1, .inl (g_cI D, n1, .inl (va_cpy f g sp dp n)))) → va_S (g_A D s.heap.size) s.heap H1 locs1 → W p l e R s m args below meth c H1 locs1 cells slots Q (F0 m (pc + 3) ls rest)) : W p l e R s m args below meth c H locs cells slots Q (F0 m pc ls (.int (nI n) :: .int (nI dp) :: .ref q1 :: .int (nI sp) :: .ref (ad_ D q0) :: rest)) := by
  have e1 : (nI sp).toNatClampNeg = sp := nI_clamp h31.1
  have e2 : (nI dp).toNatClampNeg = dp := nI_clamp h31.2.1
  have e3 : (nI n).toNatClampNeg = n := nI_clamp h31.2.2
  have es : ∀ z, (g_W D σ ++ xs).set (33 + i) z = g_W D σ ++ xs.set i z := fun z => by
    rw [List.set_append_right (h := by rw [g_Wl]; omega), g_Wl, Nat.add_sub_cancel_left]
  refine va_copyi (D := D) (tys := g_tys D) hx hb hml hown (hts _ hlink) (hts _ h3.1) (hts _ h3.2.1) (hts _ h3.2.2) hE.1 hP hD hS q0 (33 + i) 0 0 (by rw [g_xj hq0, hσ0]) (g_xi hx1) (ty := .int) rfl rfl rfl (nI_pos h31.1) (nI_pos h31.2.1) (nI_pos h31.2.2) (by rw [e1, e3]; exact h4) (by rw [e2, e3]; exact h5) (fun _ _ => rfl) hR.1 ?_ hdg (fun H1 locs1 hP1 hD1 hS1 => kk H1 locs1 ?_ ?_ hS1)
  · refine Nat.le_trans ?_ hR.2
    exact Nat.add_le_add_left (by decide +kernel) _
  · rw [← es, ← e1, ← e2, ← e3]; exact hP1
  · rw [← es, ← e1, ← e2, ← e3]; exact hD1
theorem g_iastX (hx : p.tables.exec = Jvm.exec) (hb : c.code = cc) (hE : g_EV D s) (hP : va_P D vwCl (g_W D σ ++ xs) H) (hD : va_D (g_A D s.heap.size) (g_W D σ ++ xs)) (hS : va_S (g_A D s.heap.size) s.heap H locs) {q0 n j : Nat} {f : Nat → Int32} (hq : q0 < 33) (hσ : σ q0 = .inl (g_cI D, n, .inl f)) (hj : j < n) (hn : n < 2 ^ 31) {x : Int32} (hdg : decode cc pc = .ok (.iastore, 1))
    (kk : ∀ (H1 : Heap) (locs1 : List Loc), va_P D vwCl (g_W D (va_up σ q0 (.inl (g_cI D, n, .inl (upd f j x)))) ++ xs) H1 → va_D (g_A D s.heap.size) (g_W D (va_up σ q0 (.inl (g_cI D, n, .inl (upd f j x)))) ++ xs) → va_S (g_A D s.heap.size) s.heap H1 locs1 → W p l e R s m args below meth c H1 locs1 cells slots Q (F0 m (pc + 1) ls rest)) : W p l e R s m args below meth c H locs cells slots Q (F0 m pc ls (.int x :: .int (nI j) :: .ref (ad_ D q0) :: rest)) := by
  have e1 : (nI j).toNatClampNeg = j := nI_clamp (by omega)
  refine va_iast (D := D) hx hb hE.1 hP hD hS q0 0 (by rw [g_xj hq, hσ]) rfl (vp_in_nI hj hn) hdg (fun H1 locs1 hP1 hD1 hS1 => kk H1 locs1 ?_ ?_ hS1)
  · rw [← g_set, ← List.set_append_left (h := by rw [g_Wl]; exact hq), ← e1]; exact hP1
  · exact g_xD hD
theorem g_ialdX (hx : p.tables.exec = Jvm.exec) (hb : c.code = cc) (hE : g_EV D s) (hP : va_P D vwCl (g_W D σ ++ xs) H) {q1 i n j : Nat} {f : Nat → Int32} (hx1 : xs[i]? = some (q1, .inl (g_cI D, n, .inl f))) (hj : j < n) (hn : n < 2 ^ 31) {v : Int32} (hv : f j = v) (hdg : decode cc pc = .ok (.iaload, 1))
    (kk : W p l e R s m args below meth c H locs cells slots Q (F0 m (pc + 1) ls (.int v :: rest))) : W p l e R s m args below meth c H locs cells slots Q (F0 m pc ls (.int (nI j) :: .ref q1 :: rest)) := by
  refine va_iald (D := D) hx hb hE.1 hP (33 + i) 0 (g_xi hx1) rfl (vp_in_nI hj hn) hdg ?_
  rw [nI_clamp (Nat.lt_trans hj hn), hv]
  exact kk
theorem g_callF (hr : va_Run p l e R s m args below meth c H locs cells slots mc ms (F0 m pc ls st0) rest (g_Q D post (g_A D H.size) a) (g_A D H.size)) (hS : va_S (g_A D s.heap.size) s.heap H locs)
    (kk : ∀ (v : Option Value) (σ' : Nat → va_E) (H1 : Heap) (locs1 : List Loc), post v σ' → va_P D vwCl (g_W D σ') H1 → va_S (g_A D s.heap.size) s.heap H1 locs1 → (∀ q, q < H.size → ¬ g_A D H.size q → H1[q]? = H[q]?) → W p l e R s m args below meth c H1 locs1 (cells + mc) (slots + ms) Q (F0 m (pc + 3) ls (v.toList ++ rest))) : W p l e R s m args below meth c H locs cells slots Q (F0 m pc ls st0) := by
  intro T hT X
  obtain ⟨v, st₀, t, T', L, h0, X', hL, e1, e2, ⟨⟨v', σ', hv, hp, hb⟩, hz, hk⟩, st⟩ := hr T hT X
  cases hv
  rw [h0] at hz hk
  have hA : ∀ q, q < H.size → g_A D H.size q → g_A D s.heap.size q := fun q _ h => g_Amono hS.1 q h
  obtain ⟨t2, a1, b1⟩ := kk v σ' T'.heap (locs ++ L) hp (by rw [e1]; exact hb)
    ⟨Nat.le_trans hS.1 (by rw [e1]; exact hz), fun q h1 h2 => by rw [e1, hk q (Nat.lt_of_lt_of_le h1 hS.1) (fun z => h2 (hA q (Nat.lt_of_lt_of_le h1 hS.1) z))]; exact hS.2.1 q h1 h2, fun q hq => by
      rcases List.mem_append.mp hq with h | h
      · exact hS.2.2 q h
      · exact g_Amono hS.1 _ (hL q h)⟩ (fun q h1 h2 => by rw [e1]; exact hk q h1 h2) T' rfl X'
  exact ⟨t2, st t2 a1, b1⟩
theorem g_callVF {y : MethodName} {bytes : ByteArray} {maxL idx n : Nat} {ret : Option FieldType} {rm : Room} {As rest : List Value} {b q0 ci : Nat} {cl : vw_C} {fs : List Value}
    (hx : p.tables.exec = Jvm.exec) (hb : c.code = cc) (hml : c.maxLocals = nl) (hown : s.vm.findClass own = some m.cls) (hts : ∀ w ∈ g_WA, w.before args s = true) (hE : g_EV D s) (hZ : g_EZ (g_A D s.heap.size) s s.heap) (hP : va_P D vwCl (g_W D σ ++ xs) H) (hD : va_D (g_A D s.heap.size) (g_W D σ ++ xs)) (hS : va_S (g_A D s.heap.size) s.heap H locs) (hl : ls.size = nl)
    (hM : g_M l D y bytes maxL ret rm (.ref b :: As) σ post) (k : g_kV own idx y bytes maxL ret n) (hq : q0 < 33) (hσ : σ q0 = .inr (ci, fs)) (hbq : b = ad_ D q0) (hc : vwCl[ci]? = some cl) (hcl : cl.1 = y.cls)
    (hn : As.length = n) (hst : st0 = As.reverse ++ .ref b :: rest) (hR : rm.frames + 1 ≤ R.frames ∧ 8 + (maxL + 11) + rm.locals ≤ R.locals) (hrest : (rest.map fun v => v.category).sum ≤ 8) (hf : cells + rm.cells ≤ R.cells ∧ slots + rm.slots ≤ R.slots)
    (hdg : decode cc pc = .ok (.invokevirtual idx, 3))
    (kk : ∀ (v : Option Value) (σ' : Nat → va_E) (H1 : Heap) (locs1 : List Loc), post v σ' → va_P D vwCl (g_W D σ' ++ xs) H1 → va_D (g_A D s.heap.size) (g_W D σ' ++ xs) → va_S (g_A D s.heap.size) s.heap H1 locs1 → W p l e R s m args below meth c H1 locs1 (cells + rm.cells) (slots + rm.slots) Q (F0 m (pc + 3) ls (v.toList ++ rest))) : W p l e R s m args below meth c H locs cells slots Q (F0 m pc ls st0) := by
  obtain ⟨k1, k2, k3, k4, k5, k6, k7, k8⟩ := k
  have hW : GoodIn g_WA (wsV own idx y.cls y [Cond.code y bytes maxL ret]) := by
    intro w hw
    simp only [wsV, List.cons_append, List.nil_append, List.mem_cons, List.not_mem_nil, or_false] at hw
    rcases hw with rfl | rfl | rfl | rfl | rfl <;> exact ⟨by assumption, g_good (by assumption)⟩
  refine g_callF (va_runV (As := As) (rest := rest) ⟨hx, hb, hml, hown, hts⟩ (hM H.size) (cwV (C := y.cls) n hts hW rfl rfl rfl ⟨rfl, k6, k7, k8⟩ hR) ⟨g_blind, ?_, fun U hU hW => g_pre hE hZ (g_xl hP) hS hU hW⟩ rfl hn hl hst (lv_room hrest) hdg hf) hS (fun v σ' H1 locs1 h1 h2 h3 h4 => kk v σ' H1 locs1 h1 (g_xk hP hD h2 h4) (g_xD hD) h3)
  rw [← hcl, hbq]
  exact va_recv hE.1 (g_xl hP) hc (g_at hq hσ)
end GX10
/-! the turned wood -/
theorem xor_inj {x y b : Int32} (h : x ^^^ b = y ^^^ b) : x = y := by
  have := congrArg (fun z => z ^^^ b) h
  simpa [Int32.xor_assoc] using this
theorem in_cb {L : g_L} {b z : Int32} (h : vL_ L) (g0 : 0 ≤ b) (g1 : b ≤ 65535) : ∀ k, k ≤ L.length → (in_ (cb_ L b k) z ↔ ∃ j, j < k ∧ fn_ L j ^^^ b = z)
  | 0, _ => ⟨fun q => absurd q in_nil, fun ⟨_, q, _⟩ => absurd q (Nat.not_lt_zero _)⟩
  | k + 1, hk => by
    rw [cb_, in_st (ne_m1 (xor_ok (h.2.1 k (by omega)).1 (h.2.1 k (by omega)).2 g0 g1).1), in_cb h g0 g1 k (by omega)]
    constructor
    · rintro (e | ⟨j, hj, e⟩)
      · exact ⟨k, by omega, e.symm⟩
      · exact ⟨j, by omega, e⟩
    · rintro ⟨j, hj, e⟩
      rcases Nat.lt_succ_iff_lt_or_eq.mp hj with q | q
      · exact Or.inr ⟨j, q, e⟩
      · rw [q] at e; exact Or.inl e.symm
theorem cb_no {L : g_L} {b : Int32} (h : vL_ L) (g0 : 0 ≤ b) (g1 : b ≤ 65535) {k : Nat} (hk : k < L.length) : ¬ fn_ (cb_ L b k) (rk_ (cb_ L b k) (fn_ L k ^^^ b)) = fn_ L k ^^^ b := by
  intro q
  obtain ⟨j, hj, e⟩ := (in_cb h g0 g1 k (by omega)).mp (rk_in (ne_m1 (xor_ok (h.2.1 k hk).1 (h.2.1 k hk).2 g0 g1).1) q)
  have := vL_mono h hj hk
  rw [xor_inj e] at this
  exact absurd this Int32.lt_irrefl
theorem cb_sz {L : g_L} {b : Int32} (h : vL_ L) (g0 : 0 ≤ b) (g1 : b ≤ 65535) : ∀ k, k ≤ L.length → (cb_ L b k).length = k
  | 0, _ => rfl
  | k + 1, hk => by rw [cb_, st_len, if_neg (cb_no h g0 g1 (by omega)), cb_sz h g0 g1 k (by omega)]
