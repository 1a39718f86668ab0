set_option maxHeartbeats 4000000 in
set_option maxRecDepth 100000 in
theorem lc_miles {p : Program} {l : Launch} {e : Env} {s : State} {m : MethodId} {args : Array Value} {below : List Frame} {meth : Method} {c : Code} {H : Heap} {locs : List Loc} {cells slots : Nat} {Q : State → Prop} (hst : l.stackTraces = false) {D : va_G} (hAD : g_AD D) {σ : Nat → va_E} {Ls : Nat → g_L} (hI : g_I9 D σ Ls) (hx : p.tables.exec = Jvm.exec) (hb : c.code = cL_law) (hml : c.maxLocals = 9) (hown : s.vm.findClass RL = some m.cls) (hts : ∀ w ∈ g_WA, w.before args s = true) (hE : g_EV D s) (hZ : g_EZ (g_A D s.heap.size) s s.heap) {b L : Nat} {xs : Nat → Int32} (hX : va_X b L xs s s.heap) (hbl : b < s.heap.size) (hbA : ¬ g_A D s.heap.size b) {i : Nat} (hi : i + 5 ≤ L) (hL : L ≤ 2560) (hP : va_P D vwCl (g_W D σ) H) (hS : va_S (g_A D s.heap.size) s.heap H locs) {ls : Array Slot} (hl : lv_has ls 9 [(1, .ref (ad_ D 0)), (2, .ref (ad_ D 20)), (3, .ref (ad_ D 31)), (4, .ref (ad_ D 32)), (0, .ref b), (5, .int (nI i))]) (hcs : cells + 12 ≤ 601024) (hsl : slots + 108 ≤ 7293034)
    (kk : ∀ (σ9 : Nat → va_E) (Ls9 : Nat → g_L) (H : Heap) (locs : List Loc) (ls : Array Slot), g_I9 D σ9 Ls9 → va_P D vwCl (g_W D σ9) H → va_S (g_A D s.heap.size) s.heap H locs → lv_has ls 9 [(1, .ref (ad_ D 0)), (2, .ref (ad_ D 20)), (3, .ref (ad_ D 31)), (4, .ref (ad_ D 32)), (0, .ref b), (5, .int (nI i))] → W p l e room_1 s m args below meth c H locs (cells + 12) (slots + 108) Q (F0 m 1435 ls [])) : W p l e room_1 s m args below meth c H locs cells slots Q (F0 m 488 ls []) := by
  obtain ⟨hC, hvC, ⟨th, rs, sg, S, N, Z, R9, T9, hM, hmr⟩, ⟨f8, hO⟩, ⟨fD, hOD⟩⟩ := id hI
  refine lv_aload_n hx hb dL_law_488 rfl (lv_at hl 0 rfl) ?_
  refine lv_aload_n hx hb dL_law_489 rfl (lv_at hl 4 rfl) ?_
  refine lv_iload hx hb dL_law_490 (lv_at hl 5 rfl) ?_
  refine lv_iconst (v := nI 1) hx hb dL_law_492 (by decide) ?_
  refine lv_iadd hx hb dL_law_493 ?_
  refine g_top (y := nI (i + 1)) (nI_add i 1) ?_
  refine va_sld hx hb hX hbl hbA hS (i := nI (i + 1)) (vp_in_nI (by omega) (by omega)) dL_law_494 ?_
  refine lv_aload_n hx hb dL_law_495 rfl (lv_at hl 4 rfl) ?_
  refine lv_iload hx hb dL_law_496 (lv_at hl 5 rfl) ?_
  refine lv_iconst (v := nI 2) hx hb dL_law_498 (by decide) ?_
  refine lv_iadd hx hb dL_law_499 ?_
  refine g_top (y := nI (i + 2)) (nI_add i 2) ?_
  refine va_sld hx hb hX hbl hbA hS (i := nI (i + 2)) (vp_in_nI (by omega) (by omega)) dL_law_500 ?_
  refine lv_aload_n hx hb dL_law_501 rfl (lv_at hl 2 rfl) ?_
  refine g_callSH (y := yL_miles) (n := 4) (As := [.ref (ad_ D 0), .int (xs (nI (i + 1)).toNatClampNeg), .int (xs (nI (i + 2)).toNatClampNeg), .ref (ad_ D 31)]) (rest := []) hx hb hml hown hts hE hZ hP hS hl.1 (m_L_miles l hst D hAD σ Ls (xs (nI (i + 1)).toNatClampNeg) (xs (nI (i + 2)).toNatClampNeg) hC hvC f8 hO) k_H_miles rfl rfl ⟨Nat.le_of_ble_eq_true rfl, Nat.le_of_ble_eq_true rfl⟩ (Nat.le_of_ble_eq_true rfl) ⟨by show cells + 10 ≤ 601024; omega, by show slots + 60 ≤ 7293034; omega⟩ dL_law_502 (fun v σ1 H locs hq hP hS => ?_)
  obtain ⟨rfl, hq1⟩ := hq
  refine W.eq (g2 := F0 m 505 ls [.int (nI (er_miles (xs (nI (i + 1)).toNatClampNeg) (xs (nI (i + 2)).toNatClampNeg)))]) rfl ?_
  obtain ⟨hk20, ⟨f9, hO1⟩, hOD1⟩ := wl_keep hO hq1
  rw [hOD] at hOD1
  have hM1 := hM.keep hk20
  refine lv_istore (lv' := [(6, .int (nI (er_miles (xs (nI (i + 1)).toNatClampNeg) (xs (nI (i + 2)).toNatClampNeg)))), (1, .ref (ad_ D 0)), (2, .ref (ad_ D 20)), (3, .ref (ad_ D 31)), (4, .ref (ad_ D 32)), (0, .ref b), (5, .int (nI i))]) hx hb dL_law_505 hl (by decide) rfl (fun ls hl => ?_)
  refine lv_aload_n hx hb dL_law_507 rfl (lv_at hl 2 rfl) ?_
  refine lv_aload_n hx hb dL_law_508 rfl (lv_at hl 5 rfl) ?_
  refine lv_iload hx hb dL_law_509 (lv_at hl 6 rfl) ?_
  refine lv_iconst (v := nI 1) hx hb dL_law_511 (by decide) ?_
  refine lv_iadd hx hb dL_law_512 ?_
  refine g_top (y := nI (i + 1)) (nI_add i 1) ?_
  refine va_sld hx hb hX hbl hbA hS (i := nI (i + 1)) (vp_in_nI (by omega) (by omega)) dL_law_513 ?_
  refine lv_aload_n hx hb dL_law_514 rfl (lv_at hl 5 rfl) ?_
  refine lv_iload hx hb dL_law_515 (lv_at hl 6 rfl) ?_
  refine lv_iconst (v := nI 2) hx hb dL_law_517 (by decide) ?_
  refine lv_iadd hx hb dL_law_518 ?_
  refine g_top (y := nI (i + 2)) (nI_add i 2) ?_
  refine va_sld hx hb hX hbl hbA hS (i := nI (i + 2)) (vp_in_nI (by omega) (by omega)) dL_law_519 ?_
  refine g_callV0 (y := yX3_miles) (n := 2) (As := [.int (xs (nI (i + 1)).toNatClampNeg), .int (xs (nI (i + 2)).toNatClampNeg)]) (rest := []) hx hb hml hown hts hE hZ hP hS hl.1 (m_X3_miles l D hAD σ1 th rs sg S N Z R9 T9 hM1 Ls (xs (nI (i + 1)).toNatClampNeg) (xs (nI (i + 2)).toNatClampNeg) hmr hvC) k_L_104 (ci := 3) (by decide) hM1.1 rfl rfl rfl rfl rfl ⟨rfl, rfl⟩ ⟨Nat.le_of_ble_eq_true rfl, Nat.le_of_ble_eq_true rfl⟩ (Nat.le_of_ble_eq_true rfl) ⟨by show cells + 10 ≤ 601024; omega, by show slots + 60 ≤ 7293034; omega⟩ dL_law_520 (fun v3 σ3 H locs hq hP hS => ?_)
  obtain ⟨hq3, ho3⟩ := hq
  obtain ⟨r3, rfl⟩ : ∃ r : Int32, v3 = some (.int r) := by
    rcases hq3 with ⟨-, ⟨_, _, _, hv9, _⟩⟩ | ⟨_, _, _, hv9, _⟩
    · exact ⟨_, hv9⟩
    · exact ⟨_, hv9⟩
  refine W.eq (g2 := F0 m 523 ls [.int r3]) rfl ?_
  obtain ⟨Ls3, hMM3⟩ : ∃ Ls3, g_MM D σ3 (nI (er_miles (xs (nI (i + 1)).toNatClampNeg) (xs (nI (i + 2)).toNatClampNeg))) Ls3 := by
    rcases hq3 with ⟨he9, ⟨_, _, _, _, hmm9⟩⟩ | ⟨k9, he9, -, -, hmm9⟩
    · exact ⟨_, by rw [he9]; exact hmm9⟩
    · exact ⟨_, by rw [he9]; exact hmm9⟩
  obtain ⟨rs3, sg3, S3, N3, Z3, R3, T3, hM3, hmr3⟩ := id hMM3
  refine lv_istore (lv' := [(7, .int r3), (6, .int (nI (er_miles (xs (nI (i + 1)).toNatClampNeg) (xs (nI (i + 2)).toNatClampNeg)))), (1, .ref (ad_ D 0)), (2, .ref (ad_ D 20)), (3, .ref (ad_ D 31)), (4, .ref (ad_ D 32)), (0, .ref b), (5, .int (nI i))]) hx hb dL_law_523 hl (by decide) rfl (fun ls hl => ?_)
  refine lv_aload_n hx hb dL_law_525 rfl (lv_at hl 3 rfl) ?_
  refine g_callV0 (y := yX3_thrown) (n := 0) (As := []) (rest := []) hx hb hml hown hts hE hZ hP hS hl.1 (m_X3_thrown l D hAD σ3 (nI (er_miles (xs (nI (i + 1)).toNatClampNeg) (xs (nI (i + 2)).toNatClampNeg))) rs3 sg3 S3 N3 Z3 R3 T3 hM3) k_L_85 (ci := 3) (by decide) hM3.1 rfl rfl rfl rfl rfl ⟨rfl, rfl⟩ ⟨Nat.le_of_ble_eq_true rfl, Nat.le_of_ble_eq_true rfl⟩ (Nat.le_of_ble_eq_true rfl) ⟨by show cells + 10 ≤ 601024; omega, by show slots + 60 ≤ 7293034; omega⟩ dL_law_526 (fun v4 σ4 H locs hq hP hS => ?_)
  obtain ⟨rfl, rfl⟩ := hq
  refine W.eq (g2 := F0 m 529 ls [.int (nI (er_miles (xs (nI (i + 1)).toNatClampNeg) (xs (nI (i + 2)).toNatClampNeg)))]) rfl ?_
  have hle9 : er_miles (xs (nI (i + 1)).toNatClampNeg) (xs (nI (i + 2)).toNatClampNeg) ≤ 3 := by
    unfold er_miles
    (repeat' split) <;> decide
  refine lv_iload hx hb dL_law_529 (lv_at hl 1 rfl) ?_
  refine lv_icmp_eq (tgt := 536) hx hb dL_law_531 (by decide) (fun h531 => ?_) (fun h531 => ?_)
  · refine lv_iload hx hb dL_law_536 (lv_at hl 1 rfl) ?_
    refine lv_if_ne (tgt := 553) hx hb dL_law_538 (by decide) (fun h538 => ?_) (fun h538 => ?_)
    · have hb538 := g_ne (a := er_miles (xs (nI (i + 1)).toNatClampNeg) (xs (nI (i + 2)).toNatClampNeg)) (b := 0) h538 (by omega) (by omega)
      refine lv_goto (tgt := 1435) hx hb dL_law_553 (by decide) ?_
      obtain ⟨hne, hC1, ho1⟩ := hq1.resolve_left (fun z => hb538 z.1)
      obtain ⟨k9, -, -, -, hmm9⟩ := hq3.resolve_left (fun z => hne z.1)
      have hI9 : g_I9 D σ3 _ := ⟨hC1.off ho3 (by decide), hvC, ⟨_, hmm9⟩, ⟨_, (ho3 31 (by omega)).trans hO1⟩, ⟨_, (ho3 32 (by omega)).trans hOD1⟩⟩
      refine W.widen (k := cells + 12) (n := slots + 108) (by first | exact Nat.le_refl _ | (show cells + 10 ≤ cells + 12; omega)) (by first | exact Nat.le_refl _ | (show slots + 60 ≤ slots + 108; omega)) ?_
      exact kk σ3 _ _ _ _ hI9 hP hS (lv_sub hl [2, 3, 4, 5, 6, 7] rfl)
    · have hb538 := g_eq (a := er_miles (xs (nI (i + 1)).toNatClampNeg) (xs (nI (i + 2)).toNatClampNeg)) (b := 0) h538 (by omega) (by omega)
      have he0 : er_miles (xs (nI (i + 1)).toNatClampNeg) (xs (nI (i + 2)).toNatClampNeg) = 0 := hb538
      obtain ⟨-, r9, σ2, hok, hoff, hσ1⟩ := hq1.resolve_right (fun z => z.1 he0)
      obtain ⟨-, hok3⟩ := hq3.resolve_right (fun z => by obtain ⟨k9, z1, z2, -⟩ := z; omega)
      obtain ⟨aw, x0, x1, x2, x3⟩ := hok
      obtain ⟨bw, y0, y1, y2, y3⟩ := hok3
      have ee : bw = aw := g_eq (y1.symm.trans x1) (by omega) (by omega)
      subst ee
      have hr9 : r9 = r3 := Value.int.inj (Option.some.inj (x2.trans y2.symm))
      have hC1 := x3.up31 (k := 31) (e := .inl (g_cL D, 1, .inr (.inl (vp_updL f8 0 r9.toInt64)))) (by decide)
      rw [← hσ1] at hC1
      have hvC3 := hvC
      refine lv_aload_n hx hb dL_law_541 rfl (lv_at hl 4 rfl) ?_
      refine lv_iconst (v := nI 0) hx hb dL_law_542 (by decide) ?_
      have h31 : σ3 31 = .inl (g_cL D, 1, .inr (.inl (vp_updL f8 0 r9.toInt64))) := (ho3 31 (by omega)).trans (by rw [hσ1]; exact g_ups)
      refine g_laldO hx hb hE hP h31 (v := r9.toInt64) (by simp [vp_updL]) dL_law_543 ?_
      refine lv_iload hx hb dL_law_544 (lv_at hl 0 rfl) ?_
      refine lv_i2l (v := (r3).toInt64) hx hb dL_law_546 rfl ?_
      refine W.lcmp hx hb dL_law_547 ?_
      refine g_top (y := nI 0) (by rw [hr9]; exact lg_self) ?_
      refine lv_if_eq (tgt := 553) hx hb dL_law_548 (by decide) (fun h548 => ?_) (fun h548 => ?_)
      · refine lv_goto (tgt := 1435) hx hb dL_law_553 (by decide) ?_
        have hI9 : g_I9 D σ3 _ := ⟨hC1.off ho3 (by decide), hvC3, ⟨_, y3⟩, ⟨_, (ho3 31 (by omega)).trans hO1⟩, ⟨_, (ho3 32 (by omega)).trans hOD1⟩⟩
        refine W.widen (k := cells + 12) (n := slots + 108) (by first | exact Nat.le_refl _ | (show cells + 10 ≤ cells + 12; omega)) (by first | exact Nat.le_refl _ | (show slots + 60 ≤ slots + 108; omega)) ?_
        exact kk σ3 _ _ _ _ hI9 hP hS (lv_sub hl [2, 3, 4, 5, 6, 7] rfl)
      · exact absurd rfl h548
  · exact absurd rfl h531
