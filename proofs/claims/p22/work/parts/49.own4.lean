/-! SIM'S CONSTRUCTOR: rows -/
theorem h_out2 {D : va_G} {q : Nat → Nat} {o a b : Nat} (ha : q o = a) (hb : q (o + 1) = b) : (.inl (g_cA D, 2, .inr (.inr (.inr (.inr (va_up (va_up (fun _ => none) 0 (some a)) 1 (some b)))))) : va_E) = h_out D q o := by
  unfold h_out
  congr 7
  funext j
  subst ha; subst hb
  match j with
  | 0 => rfl
  | 1 => rfl
  | n + 2 => rfl
theorem h_mkSW {D : va_G} {a b c d e f g : Nat} : ∃ q : Nat → Nat, q 0 = a ∧ ([(a, .inr (3, [.ref b, .ref c])), (b, .inl (g_cA D, 2, .inr (.inr (.inr (.inr (va_up (va_up (fun _ => none) 0 (some d)) 1 (some e))))))), (c, .inl (g_cA D, 2, .inr (.inr (.inr (.inr (va_up (va_up (fun _ => none) 0 (some f)) 1 (some g))))))), (d, h_row D []), (e, h_row D []), (f, h_row D []), (g, h_row D [])] : va_W) = h_SW D q (fun _ => []) (fun _ => []) := by
  obtain ⟨q, hq⟩ : ∃ q : Nat → Nat, q = fun k => match k with | 0 => a | 1 => b | 2 => c | 3 => d | 4 => e | 5 => f | _ => g := ⟨_, rfl⟩
  have h0 : q 0 = a := by subst hq; rfl
  have h1 : q 1 = b := by subst hq; rfl
  have h2 : q 2 = c := by subst hq; rfl
  have h3 : q 3 = d := by subst hq; rfl
  have h4 : q 4 = e := by subst hq; rfl
  have h5 : q 5 = f := by subst hq; rfl
  have h6 : q 6 = g := by subst hq; rfl
  refine ⟨q, h0, ?_⟩
  unfold h_SW
  rw [h_out2 (D := D) h3 h4, h_out2 (D := D) h5 h6, h0, h1, h2, h3, h4, h5, h6]
/-! contracts of methods that make rows of rows: the class of int[][] has been made -/
def g_O (U : State) : Prop := (Cond.arrayOver (.array .int)).before #[] U = true
def h_O (l : Launch) (D : va_G) (y : MethodName) (cc : ByteArray) (nL : Nat) (ret : Option FieldType) (rm : Room) (av : List Value) (xq : Option (Nat × Nat × (Nat → Int32))) (rs ws : va_W) (post : Option Value → va_W → Prop) : Prop :=
  ∀ sz : Nat, Met l y [Cond.code y cc nL ret] rm (va_Pc av (fun U => h_Pre D xq rs ws sz U ∧ g_O U)) (h_Q D ws sz post) rm.cells rm.slots (va_A ws sz)
theorem h_blindO {D : va_G} {xq : Option (Nat × Nat × (Nat → Int32))} {rs ws : va_W} {sz : Nat} {av : List Value} : FrameBlind (va_Pc av (fun U => h_Pre D xq rs ws sz U ∧ g_O U)) := by
  intro a U g mk h
  obtain ⟨h0, ⟨h1, h2, h3, h4, h5, h6⟩, h7⟩ := h
  have hW : U.WarmedH (U.calling g mk a).vm := State.WarmedH.refl U
  exact ⟨h0, ⟨h1, h2, h3, g_EV.warm hW h4, ⟨vx_Zq.moved (Vm.Alike.refl _) h5.1, vx_Zq.moved (Vm.Alike.refl _) h5.2⟩, h_X.moved (Vm.Alike.refl _) rfl h6⟩, over_moved (a := #[]) (Vm.Alike.refl _) h7⟩
theorem h_ofO {l : Launch} {D : va_G} {y : MethodName} {cc : ByteArray} {nL : Nat} {ret : Option FieldType} {rm : Room} {av : List Value} {xq : Option (Nat × Nat × (Nat → Int32))} {rs ws : va_W} {post : Option Value → va_W → Prop} (lv : List (Nat × Value)) (hy : plainName y.cls = true) (hn : (lg_sl av).length ≤ nL) (hlv : lv_args 0 av = lv)
    (body : ∀ (p : Program) (e : Env) (s : State) (m : MethodId) (args : Array Value) (below : List Frame) (meth : Method) (c : Code), p.tables.exec = Jvm.exec → c.code = cc → meth.sig.returnType = ret → c.maxLocals = nL → s.vm.findClass y.cls = some m.cls → meth.locks = false → (∀ w ∈ g_WA, w.before args s = true) → g_EV D s → g_EZ (va_A ws s.heap.size) s s.heap → va_P D vwCl rs s.heap → va_P D vwCl ws s.heap → va_S (va_A ws s.heap.size) s.heap s.heap [] → h_X xq ws s → g_O s → ∀ ls : Array Slot, lv_has ls nL lv →
      W p l e rm s m args below meth c s.heap [] 0 0 (MQ below (h_Q D ws s.heap.size post) args s rm.cells rm.slots (va_A ws s.heap.size)) (F0 m 0 ls [])) : h_O l D y cc nL ret rm av xq rs ws post := by
  intro sz
  refine Met.ofW (cc := cc) (maxL := nL) (ret := ret) hy rfl ?_
  intro p e s m args below meth c s₁ B hml hv
  obtain ⟨rfl, ⟨hsz, hR, hP, hE, hZ, hX⟩, hO⟩ := hv
  subst hsz
  have hl := lv_entry av (n := nL) hn
  rw [lg_entry_eq]
  rw [hlv] at hl
  exact body p e s m av.toArray below meth c B.exec B.bytes B.returns hml (findClass_of_methodNamed B.named) B.notSynchronized hE.hts hE hZ hR hP va_S.rf hX hO _ hl
section HOBJ
variable {p : Program} {l : Launch} {e : Env} {R : Room} {s : State} {m : MethodId} {args : Array Value} {below : List Frame} {meth : Method} {c : Code} {H : Heap} {locs : List Loc} {cells slots : Nat} {Q : State → Prop}
variable {D : va_G} {pc : Nat} {ls : Array Slot} {rest : List Value} {cc : ByteArray} {nl : Nat} {own : String} {A : Nat → Prop} {wc rs w xs : va_W}
theorem h_obj {idx : Nat} (hx : p.tables.exec = Jvm.exec) (hb : c.code = cc) (hml : c.maxLocals = 1) (hown : s.vm.findClass own = some m.cls) (hts : ∀ w ∈ g_WA, w.before args s = true) (hl : ls.size = 1) (h1 : Cond.methodLink own idx Lib.objectInit ∈ g_WA) {a : Nat} (hdg : decode cc pc = .ok (.invokespecial idx, 3)) (hR : 1 ≤ R.frames ∧ 20 ≤ R.locals) (kk : W p l e R s m args below meth c H locs cells slots Q (F0 m (pc + 3) ls [])) : W p l e R s m args below meth c H locs cells slots Q (F0 m pc ls [.ref a]) :=
  W.objInit hx hb hown (hts _ h1) (hts _ (g_mem 31 (by decide +kernel))) (hts _ (g_mem 32 (by decide +kernel))) rfl (hl.trans hml.symm) rfl hdg hR.1 (Nat.le_trans (Nat.le_of_ble_eq_true rfl) hR.2) kk
theorem h_putS {index a q i : Nat} {fs : List Value} (hx : p.tables.exec = Jvm.exec) (hb : c.code = cc) (hts : ∀ w ∈ g_WA, w.before args s = true) (hE : g_EV D s) (hown : s.vm.findClass RX3 = some m.cls) (hP : va_P D vwCl xs H) (hD : va_D A xs) (hS : va_S A s.heap H locs) (he : xs[i]? = some (a, .inr (3, fs))) (k : Nat) (hk : k < 2) (hT : (TX3 k).1 = RX3) (hfin : (TX3 k).2.2.2 = false) (hnr : narrow (tyX3 k) (.ref q) = .ref q) (hft : fits (tyX3 k) (.ref q) = true) (hlink : Cond.fieldLink RX3 index RX3 (TX3 k).2.1 (TX3 k).2.2.1 ∈ g_WA) (hlen : k < fs.length) (hdg : decode cc pc = .ok (.putfield index, 3))
    (kk : ∀ (H1 : Heap) (locs1 : List Loc), va_P D vwCl (xs.set i (a, .inr (3, fs.set k (.ref q)))) H1 → va_D A (xs.set i (a, .inr (3, fs.set k (.ref q)))) → va_S A s.heap H1 locs1 → W p l e R s m args below meth c H1 locs1 cells slots Q (F0 m (pc + 3) ls rest)) : W p l e R s m args below meth c H locs cells slots Q (F0 m pc ls (.ref q :: .ref a :: rest)) :=
  va_put (D := D) (tys := g_tys D) hx hb hts g_inX3 tyX3 tyX3_ok nmX3 hown hE.1 hP hD hS i he rfl k hk (hts _ hlink) (fun _ h => by rw [hT] at h; exact h) hfin (tyX3_ok k hk) hnr hft hlen hdg kk
/-- a call of a constructor by a link between nest mates -/
theorem h_callI {post : Option Value → va_W → Prop} {y : MethodName} {bytes : ByteArray} {maxL idx : Nat} {rm : Room} {b : Nat} {host : String} {xq : Option (Nat × Nat × (Nat → Int32))} {jn : va_W → va_W}
    (hx : p.tables.exec = Jvm.exec) (hb : c.code = cc) (hml : c.maxLocals = nl) (hown : s.vm.findClass own = some m.cls) (hts : ∀ w ∈ g_WA, w.before args s = true) (hE : g_EV D s) (hZ : g_EZ A s s.heap) (hS : va_S A s.heap H locs) (hl : ls.size = nl)
    (hO : g_O s) (hM : h_O l D y bytes maxL none rm [.ref b] xq rs wc post) (hR : va_P D vwCl rs H) (hC : va_P D vwCl wc H) (hA : ∀ q, va_A wc H.size q → A q) (hX : ∀ U : State, U.heap = H → s.vm.Alike U.vm → h_X xq wc U)
    (hJ : ∀ (w1 : va_W) (H1 : Heap), (∀ q, q < H.size → ¬ va_A wc H.size q → H1[q]? = H[q]?) → va_P D vwCl w1 H1 → va_D (va_A wc H.size) w1 → va_P D vwCl (jn w1) H1 ∧ va_D A (jn w1)) (k1 : Cond.methodLinkNest own idx y host ∈ g_NL) (k2 : Cond.instanceMethod y ∈ g_WA) (k4 : Cond.initialized y.cls ∈ g_WA) (k5 : Cond.code y bytes maxL none ∈ g_WA) (k6 : g_cd y 0) (hi : y.name = "<init>")
    (hRm : rm.frames + 1 ≤ R.frames ∧ 8 + (maxL + 11) + rm.locals ≤ R.locals) (hrest : (rest.map fun v => v.category).sum ≤ 8) (hf : cells + rm.cells ≤ R.cells ∧ slots + rm.slots ≤ R.slots)
    (hdg : decode cc pc = .ok (.invokespecial idx, 3))
    (kk : ∀ (v : Option Value) (w1 : va_W) (H1 : Heap) (locs1 : List Loc), post v w1 → va_P D vwCl (jn w1) H1 → va_D A (jn w1) → va_S A s.heap H1 locs1 → W p l e R s m args below meth c H1 locs1 (cells + rm.cells) (slots + rm.slots) Q (F0 m (pc + 3) ls (v.toList ++ rest))) : W p l e R s m args below meth c H locs cells slots Q (F0 m pc ls (.ref b :: rest)) := by
  have h := va_runIN (As := []) (rest := rest) (g := F0 m pc ls (.ref b :: rest)) (b := b) (p := p) (l := l) (e := e) (meth := meth) (below := below) (R := R) (H := H) (locs := locs) (cells := cells) (slots := slots) ⟨hx, hb, hml, hown, hts⟩ (hM H.size) ⟨va_cnB 0 hts (g_GI k5) rfl rfl rfl (hE.2.2.1 _ k1) (hts _ k4) k6 hRm, hi, hts _ k2⟩ ⟨h_blindO, fun U hU hW => ⟨(h_pre (av := [.ref b]) hE hZ hR hC hS hA hX hU hW).1, (h_pre (av := [.ref b]) hE hZ hR hC hS hA hX hU hW).2, over_moved (a := #[]) hW.alike hO⟩⟩ rfl rfl hl rfl (lv_room hrest) hdg hf
  exact h_call h hS hA hJ kk
/-! THE CALLS THAT make rows of rows -/
variable {st0 : List Value}
theorem h_callSO {post : Option Value → va_W → Prop} {y : MethodName} {bytes : ByteArray} {maxL idx n : Nat} {ret : Option FieldType} {rm : Room} {As rest : List Value} {xq : Option (Nat × Nat × (Nat → Int32))} {jn : va_W → va_W}
    (hx : p.tables.exec = Jvm.exec) (hb : c.code = cc) (hml : c.maxLocals = nl) (hown : s.vm.findClass own = some m.cls) (hts : ∀ w ∈ g_WA, w.before args s = true) (hE : g_EV D s) (hZ : g_EZ A s s.heap) (hS : va_S A s.heap H locs) (hl : ls.size = nl)
    (hO : g_O s) (hM : h_O l D y bytes maxL ret rm As xq rs wc post) (hR : va_P D vwCl rs H) (hC : va_P D vwCl wc H) (hA : ∀ q, va_A wc H.size q → A q) (hX : ∀ U : State, U.heap = H → s.vm.Alike U.vm → h_X xq wc U)
    (hJ : ∀ (w1 : va_W) (H1 : Heap), (∀ q, q < H.size → ¬ va_A wc H.size q → H1[q]? = H[q]?) → va_P D vwCl w1 H1 → va_D (va_A wc H.size) w1 → va_P D vwCl (jn w1) H1 ∧ va_D A (jn w1)) (k : g_kS own idx y bytes maxL ret n)
    (hn : As.length = n) (hst : st0 = As.reverse ++ rest) (hRm : rm.frames + 1 ≤ R.frames ∧ 8 + (maxL + 11) + rm.locals ≤ R.locals) (hrest : (rest.map fun v => v.category).sum ≤ 8) (hf : cells + rm.cells ≤ R.cells ∧ slots + rm.slots ≤ R.slots)
    (hdg : decode cc pc = .ok (.invokestatic idx, 3))
    (kk : ∀ (v : Option Value) (w1 : va_W) (H1 : Heap) (locs1 : List Loc), post v w1 → va_P D vwCl (jn w1) H1 → va_D A (jn w1) → va_S A s.heap H1 locs1 → W p l e R s m args below meth c H1 locs1 (cells + rm.cells) (slots + rm.slots) Q (F0 m (pc + 3) ls (v.toList ++ rest))) : W p l e R s m args below meth c H locs cells slots Q (F0 m pc ls st0) := by
  obtain ⟨k1, k2, k4, k5, k6, k7, k8⟩ := k
  have hW : GoodIn g_WA (va_wsS own idx y [Cond.code y bytes maxL ret]) := by
    intro w hw
    simp only [va_wsS, List.cons_append, List.nil_append, List.mem_cons, List.not_mem_nil, or_false] at hw
    rcases hw with rfl | rfl | rfl | rfl <;> exact ⟨by assumption, g_good (by assumption)⟩
  exact h_call (va_runS (As := As) (rest := rest) ⟨hx, hb, hml, hown, hts⟩ (hM H.size) (va_cwS n hts hW rfl rfl rfl ⟨k6, k7, k8⟩ hRm) ⟨h_blindO, fun U hU hW => ⟨(h_pre (av := As) hE hZ hR hC hS hA hX hU hW).1, (h_pre (av := As) hE hZ hR hC hS hA hX hU hW).2, over_moved (a := #[]) hW.alike hO⟩⟩ rfl hn hl hst (lv_room hrest) hdg hf) hS hA hJ kk
theorem h_nwO {index : Nat} (hx : p.tables.exec = Jvm.exec) (hb : c.code = cc) (hts : ∀ w ∈ g_WA, w.before args s = true) (hE : g_EV D s) (hown : s.vm.findClass own = some m.cls) (hlink : Cond.classLink own index (FieldType.array .int).toString ∈ g_WA) (hover : (Cond.arrayOver (.array .int)).before args s = true) (hP : va_P D vwCl (w ++ xs) H) (hD : va_D A (w ++ xs)) (hS : va_S A s.heap H locs) (hA : ∀ q, s.heap.size ≤ q → A q) (hcells : cells + 1 ≤ R.cells) (hslots : slots + 2 ≤ R.slots) (hdg : decode cc pc = .ok (.anewarray index, 3))
    (kk : ∀ (q : Nat) (H1 : Heap), va_P D vwCl (w ++ (xs ++ [(q, .inl (g_cA D, 2, .inr (.inr (.inr (.inr (fun _ => none))))))])) H1 → va_D A (w ++ (xs ++ [(q, .inl (g_cA D, 2, .inr (.inr (.inr (.inr (fun _ => none))))))])) → va_S A s.heap H1 locs → W p l e R s m args below meth c H1 locs (cells + 1) (slots + 2) Q (F0 m (pc + 3) ls (.ref q :: rest))) : W p l e R s m args below meth c H locs cells slots Q (F0 m pc ls (.int (nI 2) :: rest)) := by
  have e1 : (nI 2).toNatClampNeg = 2 := nI_clamp (by decide)
  refine W.anewA hx hb hown (hts _ hlink) hover rfl hdg rfl (nI_pos (by decide)) (by rw [e1]; decide) hcells (by rw [e1]; exact hslots) fun cA kA comp f1 f2 f3 f4 => ?_
  rw [e1]
  obtain ⟨-, -, -, g3⟩ := hE.2.2.2.2
  have e3 : cA = g_cA D := Option.some.inj (f1.symm.trans g3)
  subst e3
  generalize hH1 : H.push ({ cls := g_cA D, slots := Array.replicate 2 .null, vm := .none } : Cell) = H1
  have z1 : H1.size = H.size + 1 := by rw [← hH1, Array.size_push]
  have e1 : H1[H.size]? = some (arrV (g_cA D) 2 (fun _ => .null)) := by rw [← hH1, Array.getElem?_push_size, ← arrV_new]
  have o1 : ∀ q : Nat, q < H.size → H1[q]? = H[q]? := fun q hq => by rw [← hH1, Array.getElem?_push, if_neg (Nat.ne_of_lt hq)]
  have hk : ∀ (k : Nat) (x : Nat × va_E), (w ++ xs)[k]? = some x → H1[x.1]? = H[x.1]? := fun k x hx => o1 x.1 ((hP k x hx).lt)
  refine kk H.size H1 ?_ ?_ ⟨Nat.le_trans hS.1 (by omega), fun x h1 h2 => (o1 x (Nat.lt_of_lt_of_le h1 hS.1)).trans (hS.2.1 x h1 h2), hS.2.2⟩
  · rw [← List.append_assoc]
    refine (hP.kept hk).app (fun k x hx => ?_)
    have hz : k < 1 := (List.getElem?_eq_some_iff.mp hx).1
    rw [show k = 0 by omega] at hx
    cases hx
    show H1[H.size]? = some (vp_cell _ _)
    rw [vp_cell_q]
    exact e1
  · rw [← List.append_assoc]
    exact hD.push hP rfl (hA _ hS.1)
end HOBJ
