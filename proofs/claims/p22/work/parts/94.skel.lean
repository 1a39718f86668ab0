set_option maxHeartbeats 8000000 in
set_option maxRecDepth 100000 in
theorem whole_start {p : Program} {e : Env} {s : State} {m : MethodId} {below : List Frame} {meth : Method} {c : Code} (l : Launch) (hflags : l.flags = flags0) {b L : Nat} {xs : Nat → Int32} (hL : L ≤ 260) (C0 : lw_At p s m meth c b L xs) : W p l e room_1 s m #[Value.ref b] below meth c s.heap [] 0 0 (lw_Z below #[Value.ref b] s) (entryFrame m ([Value.ref b] : List Value).toArray 15) := by
  obtain ⟨hx, hb, hr, hml, hown, hts0, hX, hbl, hlocks, hgv⟩ := id C0
  have hst : l.stackTraces = false := by unfold Launch.stackTraces; rw [hflags]; decide
  obtain ⟨D, hE⟩ := g_EVs hts0 hgv
  have hts : ∀ w ∈ g_WA, w.before #[Value.ref b] s = true := hE.hts
  have hO : g_O s := over_moved (a := #[Value.ref b]) (Vm.Alike.refl _) (hts0 _ (List.mem_of_getElem? (i := 556) (by decide +kernel)))
  have hown : s.vm.findClass RL = some m.cls := hown
  have hb : c.code = cL_law := hb
  obtain ⟨A, hAe⟩ : ∃ A : Nat → Prop, A = fun q => s.heap.size ≤ q := ⟨_, rfl⟩
  have hA : ∀ q : Nat, s.heap.size ≤ q → A q := fun q h => by rw [hAe]; exact h
  have hge : ∀ q, A q → s.heap.size ≤ q := fun q h => by rw [hAe] at h; exact h
  have hS : va_S A s.heap s.heap [] := va_S.rf
  have hP : va_P D vwCl [] s.heap := fun k q h => by simp at h
  have hD : va_D A [] := ⟨fun i j p q h => by simp at h, fun k q h => by simp at h⟩
  have hl := lv_entry ([.ref b]) (n := 15) (Nat.le_of_ble_eq_true rfl)
  rw [lg_entry_eq]
  generalize (lg_sl ([.ref b]) ++ List.replicate (15 - (lg_sl ([.ref b])).length) Slot.unset).toArray = ls at hl ⊢
  have hl : lv_has ls 15 [(0, .ref b)] := hl
  refine va_new (D := D) (tys := g_tys D) (ci := 2) (fs := [.null, .null, .null, .null]) (C := RX2) (T := TX2) (N := 4) hx hb hts g_inX2 tyX2 tyX2_ok hown (hts _ wl_L_37) (hts _ (g_mem 26 (by decide +kernel))) (hts _ ki_X2_init) hE.1 hP hD hS hA rfl (fun j hj => by rcases (show j = 0 ∨ j = 1 ∨ j = 2 ∨ j = 3 by omega) with rfl | rfl | rfl | rfl <;> rfl) (Nat.le_of_ble_eq_true rfl) (Nat.le_of_ble_eq_true rfl) dL_law_0 (fun f H hP hD hS => ?_)
  refine W.widen (k := 1) (n := 4) (Nat.le_of_ble_eq_true rfl) (Nat.le_of_ble_eq_true rfl) ?_
  have hP : va_P D vwCl [(f, .inr (2, [.null, .null, .null, .null]))] H := hP
  have hD : va_D A [(f, .inr (2, [.null, .null, .null, .null]))] := hD
  refine lv_dup hx hb dL_law_3 rfl ?_
  refine g_callK (wc := [(f, .inr (2, [.null, .null, .null, .null]))]) (wr := []) (rest := [.ref f]) hx hb hml hown hts hE hA hP hD hS hl.1 (m_X2_init l D f) (Or.inr (g_mem 27 (by decide +kernel))) kn_X2_init ki_X2_init kc_X2_init kd_X2_init rfl [0] [] rfl rfl rfl rfl rfl (by decide) ⟨(Nat.le_of_ble_eq_true rfl), (Nat.le_of_ble_eq_true rfl)⟩ (Nat.le_of_ble_eq_true rfl) ⟨(Nat.le_of_ble_eq_true rfl), (Nat.le_of_ble_eq_true rfl)⟩ dL_law_4 (fun w1 H locs hq hP hD hS => ?_)
  obtain ⟨f_1, f_1_0, f_1_1, f_2, f_2_0, f_2_1, f_3, f_3_0, f_3_1, f_4, f_4_0, f_4_1, f_4_2, f_4_3, f_4_4, f_4_5, f_4_6, f_4_7, f_4_8, rfl⟩ := hq
  refine W.widen (k := 20) (n := 1166) (Nat.le_of_ble_eq_true rfl) (Nat.le_of_ble_eq_true rfl) ?_
  have hP : va_P D vwCl [(f, .inr (2, [.ref f_1, .ref f_2, .ref f_3, .ref f_4])), (f_1, .inr (1, [.ref f_1_0, .ref f_1_1, .int 0])), (f_1_0, .inl (g_cI D, 48, .inl (fun _ => 0))), (f_1_1, .inl (g_cI D, 48, .inl (fun _ => 0))), (f_2, .inr (1, [.ref f_2_0, .ref f_2_1, .int 0])), (f_2_0, .inl (g_cI D, 48, .inl (fun _ => 0))), (f_2_1, .inl (g_cI D, 48, .inl (fun _ => 0))), (f_3, .inr (1, [.ref f_3_0, .ref f_3_1, .int 0])), (f_3_0, .inl (g_cI D, 48, .inl (fun _ => 0))), (f_3_1, .inl (g_cI D, 48, .inl (fun _ => 0))), (f_4, .inr (0, [.ref f_4_0, .ref f_4_1, .ref f_4_2, .ref f_4_3, .ref f_4_4, .ref f_4_5, .ref f_4_6, .ref f_4_7, .ref f_4_8, .int 0])), (f_4_0, .inl (g_cI D, 95, .inl (fun _ => 0))), (f_4_1, .inl (g_cI D, 95, .inl (fun _ => 0))), (f_4_2, .inl (g_cI D, 95, .inl (fun _ => 0))), (f_4_3, .inl (g_cI D, 95, .inl (fun _ => 0))), (f_4_4, .inl (g_cI D, 95, .inl (fun _ => 0))), (f_4_5, .inl (g_cI D, 95, .inl (fun _ => 0))), (f_4_6, .inl (g_cI D, 95, .inl (fun _ => 0))), (f_4_7, .inl (g_cI D, 95, .inl (fun _ => 0))), (f_4_8, .inl (g_cI D, 95, .inl (fun _ => 0)))] H := hP
  have hD : va_D A [(f, .inr (2, [.ref f_1, .ref f_2, .ref f_3, .ref f_4])), (f_1, .inr (1, [.ref f_1_0, .ref f_1_1, .int 0])), (f_1_0, .inl (g_cI D, 48, .inl (fun _ => 0))), (f_1_1, .inl (g_cI D, 48, .inl (fun _ => 0))), (f_2, .inr (1, [.ref f_2_0, .ref f_2_1, .int 0])), (f_2_0, .inl (g_cI D, 48, .inl (fun _ => 0))), (f_2_1, .inl (g_cI D, 48, .inl (fun _ => 0))), (f_3, .inr (1, [.ref f_3_0, .ref f_3_1, .int 0])), (f_3_0, .inl (g_cI D, 48, .inl (fun _ => 0))), (f_3_1, .inl (g_cI D, 48, .inl (fun _ => 0))), (f_4, .inr (0, [.ref f_4_0, .ref f_4_1, .ref f_4_2, .ref f_4_3, .ref f_4_4, .ref f_4_5, .ref f_4_6, .ref f_4_7, .ref f_4_8, .int 0])), (f_4_0, .inl (g_cI D, 95, .inl (fun _ => 0))), (f_4_1, .inl (g_cI D, 95, .inl (fun _ => 0))), (f_4_2, .inl (g_cI D, 95, .inl (fun _ => 0))), (f_4_3, .inl (g_cI D, 95, .inl (fun _ => 0))), (f_4_4, .inl (g_cI D, 95, .inl (fun _ => 0))), (f_4_5, .inl (g_cI D, 95, .inl (fun _ => 0))), (f_4_6, .inl (g_cI D, 95, .inl (fun _ => 0))), (f_4_7, .inl (g_cI D, 95, .inl (fun _ => 0))), (f_4_8, .inl (g_cI D, 95, .inl (fun _ => 0)))] := hD
  refine lv_astore_n (lv' := [(1, .ref f), (0, .ref b)]) hx hb dL_law_7 rfl hl (by decide) rfl (fun ls hl => ?_)
  obtain ⟨D9, hD9⟩ : ∃ z : va_G, z = g_D1 D (fun k => (([(f, .inr (2, [.ref f_1, .ref f_2, .ref f_3, .ref f_4])), (f_1, .inr (1, [.ref f_1_0, .ref f_1_1, .int 0])), (f_1_0, .inl (g_cI D, 48, .inl (fun _ => 0))), (f_1_1, .inl (g_cI D, 48, .inl (fun _ => 0))), (f_2, .inr (1, [.ref f_2_0, .ref f_2_1, .int 0])), (f_2_0, .inl (g_cI D, 48, .inl (fun _ => 0))), (f_2_1, .inl (g_cI D, 48, .inl (fun _ => 0))), (f_3, .inr (1, [.ref f_3_0, .ref f_3_1, .int 0])), (f_3_0, .inl (g_cI D, 48, .inl (fun _ => 0))), (f_3_1, .inl (g_cI D, 48, .inl (fun _ => 0))), (f_4, .inr (0, [.ref f_4_0, .ref f_4_1, .ref f_4_2, .ref f_4_3, .ref f_4_4, .ref f_4_5, .ref f_4_6, .ref f_4_7, .ref f_4_8, .int 0])), (f_4_0, .inl (g_cI D, 95, .inl (fun _ => 0))), (f_4_1, .inl (g_cI D, 95, .inl (fun _ => 0))), (f_4_2, .inl (g_cI D, 95, .inl (fun _ => 0))), (f_4_3, .inl (g_cI D, 95, .inl (fun _ => 0))), (f_4_4, .inl (g_cI D, 95, .inl (fun _ => 0))), (f_4_5, .inl (g_cI D, 95, .inl (fun _ => 0))), (f_4_6, .inl (g_cI D, 95, .inl (fun _ => 0))), (f_4_7, .inl (g_cI D, 95, .inl (fun _ => 0))), (f_4_8, .inl (g_cI D, 95, .inl (fun _ => 0)))] : va_W).map Prod.fst).getD k 0) := ⟨_, rfl⟩
  obtain ⟨σ9, hσ9⟩ : ∃ z : Nat → va_E, z = fun k => (([(f, .inr (2, [.ref f_1, .ref f_2, .ref f_3, .ref f_4])), (f_1, .inr (1, [.ref f_1_0, .ref f_1_1, .int 0])), (f_1_0, .inl (g_cI D, 48, .inl (fun _ => 0))), (f_1_1, .inl (g_cI D, 48, .inl (fun _ => 0))), (f_2, .inr (1, [.ref f_2_0, .ref f_2_1, .int 0])), (f_2_0, .inl (g_cI D, 48, .inl (fun _ => 0))), (f_2_1, .inl (g_cI D, 48, .inl (fun _ => 0))), (f_3, .inr (1, [.ref f_3_0, .ref f_3_1, .int 0])), (f_3_0, .inl (g_cI D, 48, .inl (fun _ => 0))), (f_3_1, .inl (g_cI D, 48, .inl (fun _ => 0))), (f_4, .inr (0, [.ref f_4_0, .ref f_4_1, .ref f_4_2, .ref f_4_3, .ref f_4_4, .ref f_4_5, .ref f_4_6, .ref f_4_7, .ref f_4_8, .int 0])), (f_4_0, .inl (g_cI D, 95, .inl (fun _ => 0))), (f_4_1, .inl (g_cI D, 95, .inl (fun _ => 0))), (f_4_2, .inl (g_cI D, 95, .inl (fun _ => 0))), (f_4_3, .inl (g_cI D, 95, .inl (fun _ => 0))), (f_4_4, .inl (g_cI D, 95, .inl (fun _ => 0))), (f_4_5, .inl (g_cI D, 95, .inl (fun _ => 0))), (f_4_6, .inl (g_cI D, 95, .inl (fun _ => 0))), (f_4_7, .inl (g_cI D, 95, .inl (fun _ => 0))), (f_4_8, .inl (g_cI D, 95, .inl (fun _ => 0)))] : va_W).map Prod.snd).getD k (.inr (0, [])) := ⟨_, rfl⟩
  have eW : g_W D9 σ9 = [(f, .inr (2, [.ref f_1, .ref f_2, .ref f_3, .ref f_4])), (f_1, .inr (1, [.ref f_1_0, .ref f_1_1, .int 0])), (f_1_0, .inl (g_cI D, 48, .inl (fun _ => 0))), (f_1_1, .inl (g_cI D, 48, .inl (fun _ => 0))), (f_2, .inr (1, [.ref f_2_0, .ref f_2_1, .int 0])), (f_2_0, .inl (g_cI D, 48, .inl (fun _ => 0))), (f_2_1, .inl (g_cI D, 48, .inl (fun _ => 0))), (f_3, .inr (1, [.ref f_3_0, .ref f_3_1, .int 0])), (f_3_0, .inl (g_cI D, 48, .inl (fun _ => 0))), (f_3_1, .inl (g_cI D, 48, .inl (fun _ => 0))), (f_4, .inr (0, [.ref f_4_0, .ref f_4_1, .ref f_4_2, .ref f_4_3, .ref f_4_4, .ref f_4_5, .ref f_4_6, .ref f_4_7, .ref f_4_8, .int 0])), (f_4_0, .inl (g_cI D, 95, .inl (fun _ => 0))), (f_4_1, .inl (g_cI D, 95, .inl (fun _ => 0))), (f_4_2, .inl (g_cI D, 95, .inl (fun _ => 0))), (f_4_3, .inl (g_cI D, 95, .inl (fun _ => 0))), (f_4_4, .inl (g_cI D, 95, .inl (fun _ => 0))), (f_4_5, .inl (g_cI D, 95, .inl (fun _ => 0))), (f_4_6, .inl (g_cI D, 95, .inl (fun _ => 0))), (f_4_7, .inl (g_cI D, 95, .inl (fun _ => 0))), (f_4_8, .inl (g_cI D, 95, .inl (fun _ => 0)))] := by rw [hD9, hσ9]; exact g_Wof rfl
  have hP : va_P D9 vwCl (g_W D9 σ9) H := by rw [eW, hD9]; exact g_D1P hP
  have hAD : g_AD D9 := fun i j hi hj hij => hD.1 i j _ _ (by rw [← eW]; exact g_at hi rfl) (by rw [← eW]; exact g_at hj rfl) hij
  have hD : va_D A (g_W D9 σ9) := by rw [eW]; exact hD
  have hE9 : g_EV D9 s := by rw [hD9]; exact g_D1E hE
  have a0 : ad_ D9 0 = f := by rw [hD9]; rfl
  have a1 : ad_ D9 1 = f_1 := by rw [hD9]; rfl
  have a2 : ad_ D9 2 = f_1_0 := by rw [hD9]; rfl
  have a3 : ad_ D9 3 = f_1_1 := by rw [hD9]; rfl
  have a4 : ad_ D9 4 = f_2 := by rw [hD9]; rfl
  have a5 : ad_ D9 5 = f_2_0 := by rw [hD9]; rfl
  have a6 : ad_ D9 6 = f_2_1 := by rw [hD9]; rfl
  have a7 : ad_ D9 7 = f_3 := by rw [hD9]; rfl
  have a8 : ad_ D9 8 = f_3_0 := by rw [hD9]; rfl
  have a9 : ad_ D9 9 = f_3_1 := by rw [hD9]; rfl
  have a10 : ad_ D9 10 = f_4 := by rw [hD9]; rfl
  have a11 : ad_ D9 11 = f_4_0 := by rw [hD9]; rfl
  have a12 : ad_ D9 12 = f_4_1 := by rw [hD9]; rfl
  have a13 : ad_ D9 13 = f_4_2 := by rw [hD9]; rfl
  have a14 : ad_ D9 14 = f_4_3 := by rw [hD9]; rfl
  have a15 : ad_ D9 15 = f_4_4 := by rw [hD9]; rfl
  have a16 : ad_ D9 16 = f_4_5 := by rw [hD9]; rfl
  have a17 : ad_ D9 17 = f_4_6 := by rw [hD9]; rfl
  have a18 : ad_ D9 18 = f_4_7 := by rw [hD9]; rfl
  have a19 : ad_ D9 19 = f_4_8 := by rw [hD9]; rfl
  have z0 : σ9 0 = .inr (2, [.ref f_1, .ref f_2, .ref f_3, .ref f_4]) := by rw [hσ9]; rfl
  have z1 : σ9 1 = .inr (1, [.ref f_1_0, .ref f_1_1, .int 0]) := by rw [hσ9]; rfl
  have z2 : σ9 2 = .inl (g_cI D, 48, .inl (fun _ => 0)) := by rw [hσ9]; rfl
  have z3 : σ9 3 = .inl (g_cI D, 48, .inl (fun _ => 0)) := by rw [hσ9]; rfl
  have z4 : σ9 4 = .inr (1, [.ref f_2_0, .ref f_2_1, .int 0]) := by rw [hσ9]; rfl
  have z5 : σ9 5 = .inl (g_cI D, 48, .inl (fun _ => 0)) := by rw [hσ9]; rfl
  have z6 : σ9 6 = .inl (g_cI D, 48, .inl (fun _ => 0)) := by rw [hσ9]; rfl
  have z7 : σ9 7 = .inr (1, [.ref f_3_0, .ref f_3_1, .int 0]) := by rw [hσ9]; rfl
  have z8 : σ9 8 = .inl (g_cI D, 48, .inl (fun _ => 0)) := by rw [hσ9]; rfl
  have z9 : σ9 9 = .inl (g_cI D, 48, .inl (fun _ => 0)) := by rw [hσ9]; rfl
  have z10 : σ9 10 = .inr (0, [.ref f_4_0, .ref f_4_1, .ref f_4_2, .ref f_4_3, .ref f_4_4, .ref f_4_5, .ref f_4_6, .ref f_4_7, .ref f_4_8, .int 0]) := by rw [hσ9]; rfl
  have z11 : σ9 11 = .inl (g_cI D, 95, .inl (fun _ => 0)) := by rw [hσ9]; rfl
  have z12 : σ9 12 = .inl (g_cI D, 95, .inl (fun _ => 0)) := by rw [hσ9]; rfl
  have z13 : σ9 13 = .inl (g_cI D, 95, .inl (fun _ => 0)) := by rw [hσ9]; rfl
  have z14 : σ9 14 = .inl (g_cI D, 95, .inl (fun _ => 0)) := by rw [hσ9]; rfl
  have z15 : σ9 15 = .inl (g_cI D, 95, .inl (fun _ => 0)) := by rw [hσ9]; rfl
  have z16 : σ9 16 = .inl (g_cI D, 95, .inl (fun _ => 0)) := by rw [hσ9]; rfl
  have z17 : σ9 17 = .inl (g_cI D, 95, .inl (fun _ => 0)) := by rw [hσ9]; rfl
  have z18 : σ9 18 = .inl (g_cI D, 95, .inl (fun _ => 0)) := by rw [hσ9]; rfl
  have z19 : σ9 19 = .inl (g_cI D, 95, .inl (fun _ => 0)) := by rw [hσ9]; rfl
  have ecI : g_cI D9 = g_cI D := by rw [hD9]; rfl
  have hC : g_C D9 σ9 (fun _ => []) := ⟨by rw [z0, a1, a4, a7, a10], ⟨fun _ => 0, fun _ => 0, by rw [z1, a2, a3]; rfl, by rw [z2, ecI], by rw [z3, ecI], fun j h => absurd h (Nat.not_lt_zero _), by decide, by decide⟩, ⟨fun _ => 0, fun _ => 0, by rw [z4, a5, a6]; rfl, by rw [z5, ecI], by rw [z6, ecI], fun j h => absurd h (Nat.not_lt_zero _), by decide, by decide⟩, ⟨[], ⟨fun _ => 0, fun _ => 0, by rw [z7, a8, a9]; rfl, by rw [z8, ecI], by rw [z9, ecI], fun j h => absurd h (Nat.not_lt_zero _), by decide, by decide⟩⟩, 0, fun _ _ => 0, by rw [z10, a11, a12, a13, a14, a15, a16, a17, a18, a19]; rfl, by rw [z11, ecI], by rw [z12, ecI], by rw [z13, ecI], by rw [z14, ecI], by rw [z15, ecI], by rw [z16, ecI], by rw [z17, ecI], by rw [z18, ecI], by rw [z19, ecI], by decide⟩
  have hl : lv_has ls 15 [(1, .ref (ad_ D9 0)), (0, .ref b)] := by
    rw [a0]
    exact hl
  have hZ : g_EZ A s s.heap := g_EZs hts0 hgv (fun a h1 h2 => Nat.not_lt.mpr (hge a h2) h1)
  refine lw_main hst (D := D9) hAD hx hb hml hown hts hE9 hZ hX hbl (fun h => Nat.not_lt.mpr (hge b h) hbl) hL hO hA hC hP hD hS ?_ hl
  intro H locs cells slots ls hc hs hS
  refine va_forget (fun q hq => hge _ (hS.2.2 q hq)) ?_
  refine W.widen (k := room_1.cells) (n := room_1.slots) (Nat.le_trans hc (Nat.le_of_ble_eq_true rfl)) (Nat.le_trans hs (Nat.le_of_ble_eq_true rfl)) ?_
  exact lw_ret (d0 := s.drawn) (Drawn.sameBut.refl s.drawn lw_cs) hx hb hr hlocks dL_law_1115
