/-! THE LAW'S OWN CELLS -/
section GX11
variable {p : Program} {l : Launch} {e : Env} {R : Room} {s : State} {m : MethodId} {args : Array Value} {below : List Frame} {meth : Method} {c : Code} {H : Heap} {locs : List Loc} {cells slots : Nat} {Q : State → Prop}
variable {D : va_G} {σ : Nat → va_E} {pc : Nat} {ls : Array Slot} {rest : List Value} {cc : ByteArray}
theorem g_lastO (hx : p.tables.exec = Jvm.exec) (hb : c.code = cc) (hE : g_EV D s) (hAD : g_AD D) (hP : va_P D vwCl (g_W D σ) H) (hS : va_S (g_A D s.heap.size) s.heap H locs) {f : Nat → Int64} (hσ : σ 31 = .inl (g_cL D, 1, .inr (.inl f))) {x : Int64} (hdg : decode cc pc = .ok (.lastore, 1))
    (kk : ∀ (H1 : Heap) (locs1 : List Loc), va_P D vwCl (g_W D (va_up σ 31 (.inl (g_cL D, 1, .inr (.inl (vp_updL f 0 x)))))) H1 → va_S (g_A D s.heap.size) s.heap H1 locs1 → W p l e R s m args below meth c H1 locs1 cells slots Q (F0 m (pc + 1) ls rest)) : W p l e R s m args below meth c H locs cells slots Q (F0 m pc ls (.long x :: .int (nI 0) :: .ref (ad_ D 31) :: rest)) := by
  refine va_last (D := D) (tys := g_tys D) hx hb hE.1 hP (g_Ds hAD) hS 31 1 (g_at (by decide) hσ) rfl (i := nI 0) (vp_in_nI (by decide) (by decide)) hdg (fun H1 locs1 hP1 _ hS1 => kk H1 locs1 ?_ hS1)
  rw [← g_set]; exact hP1
theorem g_dastO (hx : p.tables.exec = Jvm.exec) (hb : c.code = cc) (hE : g_EV D s) (hAD : g_AD D) (hP : va_P D vwCl (g_W D σ) H) (hS : va_S (g_A D s.heap.size) s.heap H locs) {f : Nat → UInt64} (hσ : σ 32 = .inl (g_cD D, 1, .inr (.inr (.inr (.inl f))))) {x : UInt64} (hdg : decode cc pc = .ok (.dastore, 1))
    (kk : ∀ (H1 : Heap) (locs1 : List Loc), va_P D vwCl (g_W D (va_up σ 32 (.inl (g_cD D, 1, .inr (.inr (.inr (.inl (vf_upd f 0 x)))))))) H1 → va_S (g_A D s.heap.size) s.heap H1 locs1 → W p l e R s m args below meth c H1 locs1 cells slots Q (F0 m (pc + 1) ls rest)) : W p l e R s m args below meth c H locs cells slots Q (F0 m pc ls (.double x :: .int (nI 0) :: .ref (ad_ D 32) :: rest)) := by
  refine va_dast (D := D) (tys := g_tys D) hx hb hE.1 hP (g_Ds hAD) hS 32 2 (g_at (by decide) hσ) rfl (i := nI 0) (vp_in_nI (by decide) (by decide)) hdg (fun H1 locs1 hP1 _ hS1 => kk H1 locs1 ?_ hS1)
  rw [← g_set]; exact hP1
end GX11
