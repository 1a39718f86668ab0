set_option maxHeartbeats 4000000 in
set_option maxRecDepth 100000 in
theorem lc_miles {p : Program} {l : Launch} {e : Env} {s : State} {m : MethodId} {args : Array Value} {below : List Frame} {meth : Method} {c : Code} {H : Heap} {locs : List Loc} {cells slots : Nat} {Q : State → Prop} (hst : l.stackTraces = false) {D : va_G} (hAD : g_AD D) {σ : Nat → va_E} {Ls : Nat → g_L} (hI : g_I9 D σ Ls) (hx : p.tables.exec = Jvm.exec) (hb : c.code = cL_law) (hml : c.maxLocals = 9) (hown : s.vm.findClass RL = some m.cls) (hts : ∀ w ∈ g_WA, w.before args s = true) (hE : g_EV D s) (hZ : g_EZ (g_A D s.heap.size) s s.heap) {b L : Nat} {xs : Nat → Int32} (hX : va_X b L xs s s.heap) (hbl : b < s.heap.size) (hbA : ¬ g_A D s.heap.size b) {i : Nat} (hi : i + 5 ≤ L) (hL : L ≤ 2560) (hP : va_P D vwCl (g_W D σ) H) (hS : va_S (g_A D s.heap.size) s.heap H locs) {ls : Array Slot} (hl : lv_has ls 9 [(1, .ref (ad_ D 0)), (2, .ref (ad_ D 20)), (3, .ref (ad_ D 31)), (4, .ref (ad_ D 32)), (0, .ref b), (5, .int (nI i))]) (hcs : cells + 12 ≤ 600000) (hsl : slots + 108 ≤ 6500000)
    (kk : ∀ (σ9 : Nat → va_E) (Ls9 : Nat → g_L) (H : Heap) (locs : List Loc) (ls : Array Slot), g_I9 D σ9 Ls9 → va_P D vwCl (g_W D σ9) H → va_S (g_A D s.heap.size) s.heap H locs → lv_has ls 9 [(1, .ref (ad_ D 0)), (2, .ref (ad_ D 20)), (3, .ref (ad_ D 31)), (4, .ref (ad_ D 32)), (0, .ref b), (5, .int (nI i))] → W p l e room_1 s m args below meth c H locs (cells + 12) (slots + 108) Q (F0 m 1435 ls [])) : W p l e room_1 s m args below meth c H locs cells slots Q (F0 m 488 ls []) := by
  obtain ⟨hC, hvC, ⟨th, rs, sg, S, N, Z, R9, T9, hM, hmr⟩, ⟨f8, hO⟩, ⟨fD, hOD⟩⟩ := id hI
  refine lv_aload_n hx hb dL_law_488 rfl (lv_at hl 0 rfl) ?_
  refine lv_aload_n hx hb dL_law_489 rfl (lv_at hl 4 rfl) ?_
  refine lv_iload hx hb dL_law_490 (lv_at hl 5 rfl) ?_
  refine lv_iconst (v := nI 1) hx hb dL_law_492 (by decide) ?_
  refine lv_iadd hx hb dL_law_493 ?_
  refine g_top (y := nI (i + 1)) (nI_add i 1) ?_
  refine va_sld hx hb hX hbl hbA hS (i := nI (i + 1)) (vp_in_nI (by omega) (by omega)) dL_law_494 ?_
  refine lv_aload_n hx hb dL_law_495 rfl (lv_at hl 4 rfl) ?_
  refine lv_iload hx hb dL_law_496 (lv_at hl 5 rfl) ?_
  refine lv_iconst (v := nI 2) hx hb dL_law_498 (by decide) ?_
  refine lv_iadd hx hb dL_law_499 ?_
  refine g_top (y := nI (i + 2)) (nI_add i 2) ?_
  refine va_sld hx hb hX hbl hbA hS (i := nI (i + 2)) (vp_in_nI (by omega) (by omega)) dL_law_500 ?_
  refine lv_aload_n hx hb dL_law_501 rfl (lv_at hl 2 rfl) ?_
  refine g_callSH (y := yL_miles) (n := 4) (As := [.ref (ad_ D 0), .int (xs (nI (i + 1)).toNatClampNeg), .int (xs (nI (i + 2)).toNatClampNeg), .ref (ad_ D 31)]) (rest := []) hx hb hml hown hts hE hZ hP hS hl.1 (m_L_miles l hst D hAD σ Ls (xs (nI (i + 1)).toNatClampNeg) (xs (nI (i + 2)).toNatClampNeg) hC hvC f8 hO) k_H_miles rfl rfl ⟨Nat.le_of_ble_eq_true rfl, Nat.le_of_ble_eq_true rfl⟩ (Nat.le_of_ble_eq_true rfl) ⟨by show cells + 10 ≤ room_1.cells; exact g_rmC (by omega), by show slots + 60 ≤ room_1.slots; exact g_rmS (by omega)⟩ dL_law_502 (fun v σ1 H locs hq hP hS => ?_)
  obtain ⟨rfl, hq1⟩ := hq
  refine W.eq (g2 := F0 m 505 ls [.int (nI (er_miles (xs (nI (i + 1)).toNatClampNeg) (xs (nI (i + 2)).toNatClampNeg)))]) rfl ?_
  obtain ⟨hk20, ⟨f9, hO1⟩, hOD1⟩ := wl_keep hO hq1
  rw [hOD] at hOD1
  have hM1 := hM.keep hk20
  refine lv_istore (lv' := [(6, .int (nI (er_miles (xs (nI (i + 1)).toNatClampNeg) (xs (nI (i + 2)).toNatClampNeg)))), (1, .ref (ad_ D 0)), (2, .ref (ad_ D 20)), (3, .ref (ad_ D 31)), (4, .ref (ad_ D 32)), (0, .ref b), (5, .int (nI i))]) hx hb dL_law_505 hl (by decide) rfl (fun ls hl => ?_)
  refine lv_aload_n hx hb dL_law_507 rfl (lv_at hl 2 rfl) ?_
  refine lv_aload_n hx hb dL_law_508 rfl (lv_at hl 5 rfl) ?_
  refine lv_iload hx hb dL_law_509 (lv_at hl 6 rfl) ?_
  refine lv_iconst (v := nI 1) hx hb dL_law_511 (by decide) ?_
  refine lv_iadd hx hb dL_law_512 ?_
  refine g_top (y := nI (i + 1)) (nI_add i 1) ?_
  refine va_sld hx hb hX hbl hbA hS (i := nI (i + 1)) (vp_in_nI (by omega) (by omega)) dL_law_513 ?_
  refine lv_aload_n hx hb dL_law_514 rfl (lv_at hl 5 rfl) ?_
  refine lv_iload hx hb dL_law_515 (lv_at hl 6 rfl) ?_
  refine lv_iconst (v := nI 2) hx hb dL_law_517 (by decide) ?_
  refine lv_iadd hx hb dL_law_518 ?_
  refine g_top (y := nI (i + 2)) (nI_add i 2) ?_
  refine va_sld hx hb hX hbl hbA hS (i := nI (i + 2)) (vp_in_nI (by omega) (by omega)) dL_law_519 ?_
  refine g_callV0 (y := yX3_miles) (n := 2) (As := [.int (xs (nI (i + 1)).toNatClampNeg), .int (xs (nI (i + 2)).toNatClampNeg)]) (rest := []) hx hb hml hown hts hE hZ hP hS hl.1 (m_X3_miles l D hAD σ1 th rs sg S N Z R9 T9 hM1 Ls (xs (nI (i + 1)).toNatClampNeg) (xs (nI (i + 2)).toNatClampNeg) hmr hvC) k_L_104 (ci := 3) (by decide) hM1.1 rfl rfl rfl rfl rfl ⟨rfl, rfl⟩ ⟨Nat.le_of_ble_eq_true rfl, Nat.le_of_ble_eq_true rfl⟩ (Nat.le_of_ble_eq_true rfl) ⟨by show cells + 10 ≤ room_1.cells; exact g_rmC (by omega), by show slots + 60 ≤ room_1.slots; exact g_rmS (by omega)⟩ dL_law_520 (fun v3 σ3 H locs hq hP hS => ?_)
  obtain ⟨hq3, ho3⟩ := hq
  obtain ⟨r3, rfl⟩ : ∃ r : Int32, v3 = some (.int r) := by
    rcases hq3 with ⟨-, ⟨_, _, _, hv9, _⟩⟩ | ⟨_, _, _, hv9, _⟩
    · exact ⟨_, hv9⟩
    · exact ⟨_, hv9⟩
  refine W.eq (g2 := F0 m 523 ls [.int r3]) rfl ?_
  obtain ⟨Ls3, hMM3⟩ : ∃ Ls3, g_MM D σ3 (nI (er_miles (xs (nI (i + 1)).toNatClampNeg) (xs (nI (i + 2)).toNatClampNeg))) Ls3 := by
    rcases hq3 with ⟨he9, ⟨_, _, _, _, hmm9⟩⟩ | ⟨k9, he9, -, -, hmm9⟩
    · exact ⟨_, by rw [he9]; exact hmm9⟩
    · exact ⟨_, by rw [he9]; exact hmm9⟩
  obtain ⟨rs3, sg3, S3, N3, Z3, R3, T3, hM3, hmr3⟩ := id hMM3
  refine lv_istore (lv' := [(7, .int r3), (6, .int (nI (er_miles (xs (nI (i + 1)).toNatClampNeg) (xs (nI (i + 2)).toNatClampNeg)))), (1, .ref (ad_ D 0)), (2, .ref (ad_ D 20)), (3, .ref (ad_ D 31)), (4, .ref (ad_ D 32)), (0, .ref b), (5, .int (nI i))]) hx hb dL_law_523 hl (by decide) rfl (fun ls hl => ?_)
  refine lv_aload_n hx hb dL_law_525 rfl (lv_at hl 3 rfl) ?_
  refine g_callV0 (y := yX3_thrown) (n := 0) (As := []) (rest := []) hx hb hml hown hts hE hZ hP hS hl.1 (m_X3_thrown l D hAD σ3 (nI (er_miles (xs (nI (i + 1)).toNatClampNeg) (xs (nI (i + 2)).toNatClampNeg))) rs3 sg3 S3 N3 Z3 R3 T3 hM3) k_L_85 (ci := 3) (by decide) hM3.1 rfl rfl rfl rfl rfl ⟨rfl, rfl⟩ ⟨Nat.le_of_ble_eq_true rfl, Nat.le_of_ble_eq_true rfl⟩ (Nat.le_of_ble_eq_true rfl) ⟨by show cells + 10 ≤ room_1.cells; exact g_rmC (by omega), by show slots + 60 ≤ room_1.slots; exact g_rmS (by omega)⟩ dL_law_526 (fun v4 σ4 H locs hq hP hS => ?_)
  obtain ⟨rfl, rfl⟩ := hq
  refine W.eq (g2 := F0 m 529 ls [.int (nI (er_miles (xs (nI (i + 1)).toNatClampNeg) (xs (nI (i + 2)).toNatClampNeg)))]) rfl ?_
  have hle9 : er_miles (xs (nI (i + 1)).toNatClampNeg) (xs (nI (i + 2)).toNatClampNeg) ≤ 3 := by
    unfold er_miles
    (repeat' split) <;> decide
  refine lv_iload hx hb dL_law_529 (lv_at hl 1 rfl) ?_
  refine lv_icmp_eq (tgt := 536) hx hb dL_law_531 (by decide) (fun h531 => ?_) (fun h531 => ?_)
  · refine lv_iload hx hb dL_law_536 (lv_at hl 1 rfl) ?_
    refine lv_if_ne (tgt := 553) hx hb dL_law_538 (by decide) (fun h538 => ?_) (fun h538 => ?_)
    · have hb538 := g_ne (a := er_miles (xs (nI (i + 1)).toNatClampNeg) (xs (nI (i + 2)).toNatClampNeg)) (b := 0) h538 (by omega) (by omega)
      refine lv_goto (tgt := 1435) hx hb dL_law_553 (by decide) ?_
      obtain ⟨hne, hC1, ho1⟩ := hq1.resolve_left (fun z => hb538 z.1)
      obtain ⟨k9, -, -, -, hmm9⟩ := hq3.resolve_left (fun z => hne z.1)
      have hI9 : g_I9 D σ3 _ := ⟨hC1.off ho3 (by decide), hvC, ⟨_, hmm9⟩, ⟨_, (ho3 31 (by omega)).trans hO1⟩, ⟨_, (ho3 32 (by omega)).trans hOD1⟩⟩
      refine W.widen (k := cells + 12) (n := slots + 108) (by first | exact Nat.le_refl _ | (show cells + 10 ≤ cells + 12; omega)) (by first | exact Nat.le_refl _ | (show slots + 60 ≤ slots + 108; omega)) ?_
      exact kk σ3 _ _ _ _ hI9 hP hS (lv_sub hl [2, 3, 4, 5, 6, 7] rfl)
    · have hb538 := g_eq (a := er_miles (xs (nI (i + 1)).toNatClampNeg) (xs (nI (i + 2)).toNatClampNeg)) (b := 0) h538 (by omega) (by omega)
      have he0 : er_miles (xs (nI (i + 1)).toNatClampNeg) (xs (nI (i + 2)).toNatClampNeg) = 0 := hb538
      obtain ⟨-, r9, σ2, hok, hoff, hσ1⟩ := hq1.resolve_right (fun z => z.1 he0)
      obtain ⟨-, hok3⟩ := hq3.resolve_right (fun z => by obtain ⟨k9, z1, z2, -⟩ := z; omega)
      obtain ⟨vaw, x0, x1, x2, x3⟩ := hok
      obtain ⟨vbw, y0, y1, y2, y3⟩ := hok3
      have hl24 := (hvC vbw y0).2
      have hzz := zs_le (show (Ls vbw).length ≤ 48 by omega)
      have ee : vbw = vaw := g_eq (y1.symm.trans x1) (by omega) (by omega)
      subst ee
      have hr9 : r9 = r3 := Value.int.inj (Option.some.inj (x2.trans y2.symm))
      have hC1 := x3.up31 (k := 31) (e := .inl (g_cL D, 1, .inr (.inl (vp_updL f8 0 r9.toInt64)))) (by decide)
      rw [← hσ1] at hC1
      have hvC3 := hvC
      refine lv_aload_n hx hb dL_law_541 rfl (lv_at hl 4 rfl) ?_
      refine lv_iconst (v := nI 0) hx hb dL_law_542 (by decide) ?_
      have h31 : σ3 31 = .inl (g_cL D, 1, .inr (.inl (vp_updL f8 0 r9.toInt64))) := (ho3 31 (by omega)).trans (by rw [hσ1]; exact g_ups)
      refine g_laldO hx hb hE hP h31 (v := r9.toInt64) (by simp [vp_updL]) dL_law_543 ?_
      refine lv_iload hx hb dL_law_544 (lv_at hl 0 rfl) ?_
      refine lv_i2l (v := (r3).toInt64) hx hb dL_law_546 rfl ?_
      refine W.lcmp hx hb dL_law_547 ?_
      refine g_top (y := nI 0) (by rw [hr9]; exact lg_self) ?_
      refine lv_if_eq (tgt := 553) hx hb dL_law_548 (by decide) (fun h548 => ?_) (fun h548 => ?_)
      · refine lv_goto (tgt := 1435) hx hb dL_law_553 (by decide) ?_
        have hI9 : g_I9 D σ3 _ := ⟨hC1.off ho3 (by decide), hvC3, ⟨_, y3⟩, ⟨_, (ho3 31 (by omega)).trans hO1⟩, ⟨_, (ho3 32 (by omega)).trans hOD1⟩⟩
        refine W.widen (k := cells + 12) (n := slots + 108) (by first | exact Nat.le_refl _ | (show cells + 10 ≤ cells + 12; omega)) (by first | exact Nat.le_refl _ | (show slots + 60 ≤ slots + 108; omega)) ?_
        exact kk σ3 _ _ _ _ hI9 hP hS (lv_sub hl [2, 3, 4, 5, 6, 7] rfl)
      · exact absurd rfl h548
  · exact absurd rfl h531

set_option maxHeartbeats 4000000 in
set_option maxRecDepth 100000 in
theorem lc_count {p : Program} {l : Launch} {e : Env} {s : State} {m : MethodId} {args : Array Value} {below : List Frame} {meth : Method} {c : Code} {H : Heap} {locs : List Loc} {cells slots : Nat} {Q : State → Prop} (hst : l.stackTraces = false) {D : va_G} (hAD : g_AD D) {σ : Nat → va_E} {Ls : Nat → g_L} (hI : g_I9 D σ Ls) (hx : p.tables.exec = Jvm.exec) (hb : c.code = cL_law) (hml : c.maxLocals = 9) (hown : s.vm.findClass RL = some m.cls) (hts : ∀ w ∈ g_WA, w.before args s = true) (hE : g_EV D s) (hZ : g_EZ (g_A D s.heap.size) s s.heap) {b L : Nat} {xs : Nat → Int32} (hX : va_X b L xs s s.heap) (hbl : b < s.heap.size) (hbA : ¬ g_A D s.heap.size b) {i : Nat} (hi : i + 5 ≤ L) (hL : L ≤ 2560) (hP : va_P D vwCl (g_W D σ) H) (hS : va_S (g_A D s.heap.size) s.heap H locs) {ls : Array Slot} (hl : lv_has ls 9 [(1, .ref (ad_ D 0)), (2, .ref (ad_ D 20)), (3, .ref (ad_ D 31)), (4, .ref (ad_ D 32)), (0, .ref b), (5, .int (nI i))]) (hcs : cells + 12 ≤ 600000) (hsl : slots + 108 ≤ 6500000)
    (kk : ∀ (σ9 : Nat → va_E) (Ls9 : Nat → g_L) (H : Heap) (locs : List Loc) (ls : Array Slot), g_I9 D σ9 Ls9 → va_P D vwCl (g_W D σ9) H → va_S (g_A D s.heap.size) s.heap H locs → lv_has ls 9 [(1, .ref (ad_ D 0)), (2, .ref (ad_ D 20)), (3, .ref (ad_ D 31)), (4, .ref (ad_ D 32)), (0, .ref b), (5, .int (nI i))] → W p l e room_1 s m args below meth c H locs (cells + 12) (slots + 108) Q (F0 m 1435 ls [])) : W p l e room_1 s m args below meth c H locs cells slots Q (F0 m 556 ls []) := by
  obtain ⟨hC, hvC, ⟨th, rs, sg, S, N, Z, R9, T9, hM, hmr⟩, ⟨f8, hO⟩, ⟨fD, hOD⟩⟩ := id hI
  refine lv_aload_n hx hb dL_law_556 rfl (lv_at hl 0 rfl) ?_
  refine lv_aload_n hx hb dL_law_557 rfl (lv_at hl 4 rfl) ?_
  refine lv_iload hx hb dL_law_558 (lv_at hl 5 rfl) ?_
  refine lv_iconst (v := nI 1) hx hb dL_law_560 (by decide) ?_
  refine lv_iadd hx hb dL_law_561 ?_
  refine g_top (y := nI (i + 1)) (nI_add i 1) ?_
  refine va_sld hx hb hX hbl hbA hS (i := nI (i + 1)) (vp_in_nI (by omega) (by omega)) dL_law_562 ?_
  refine lv_aload_n hx hb dL_law_563 rfl (lv_at hl 4 rfl) ?_
  refine lv_iload hx hb dL_law_564 (lv_at hl 5 rfl) ?_
  refine lv_iconst (v := nI 2) hx hb dL_law_566 (by decide) ?_
  refine lv_iadd hx hb dL_law_567 ?_
  refine g_top (y := nI (i + 2)) (nI_add i 2) ?_
  refine va_sld hx hb hX hbl hbA hS (i := nI (i + 2)) (vp_in_nI (by omega) (by omega)) dL_law_568 ?_
  refine lv_aload_n hx hb dL_law_569 rfl (lv_at hl 2 rfl) ?_
  refine g_callSH (y := yL_count) (n := 4) (As := [.ref (ad_ D 0), .int (xs (nI (i + 1)).toNatClampNeg), .int (xs (nI (i + 2)).toNatClampNeg), .ref (ad_ D 31)]) (rest := []) hx hb hml hown hts hE hZ hP hS hl.1 (m_L_count l hst D hAD σ Ls (xs (nI (i + 1)).toNatClampNeg) (xs (nI (i + 2)).toNatClampNeg) hC hvC f8 hO) k_H_count rfl rfl ⟨Nat.le_of_ble_eq_true rfl, Nat.le_of_ble_eq_true rfl⟩ (Nat.le_of_ble_eq_true rfl) ⟨by show cells + 10 ≤ room_1.cells; exact g_rmC (by omega), by show slots + 60 ≤ room_1.slots; exact g_rmS (by omega)⟩ dL_law_570 (fun v σ1 H locs hq hP hS => ?_)
  obtain ⟨rfl, hq1⟩ := hq
  refine W.eq (g2 := F0 m 573 ls [.int (nI (er_count (xs (nI (i + 1)).toNatClampNeg) (xs (nI (i + 2)).toNatClampNeg)))]) rfl ?_
  obtain ⟨hk20, ⟨f9, hO1⟩, hOD1⟩ := wl_keep hO hq1
  rw [hOD] at hOD1
  have hM1 := hM.keep hk20
  refine lv_istore (lv' := [(6, .int (nI (er_count (xs (nI (i + 1)).toNatClampNeg) (xs (nI (i + 2)).toNatClampNeg)))), (1, .ref (ad_ D 0)), (2, .ref (ad_ D 20)), (3, .ref (ad_ D 31)), (4, .ref (ad_ D 32)), (0, .ref b), (5, .int (nI i))]) hx hb dL_law_573 hl (by decide) rfl (fun ls hl => ?_)
  refine lv_aload_n hx hb dL_law_575 rfl (lv_at hl 2 rfl) ?_
  refine lv_aload_n hx hb dL_law_576 rfl (lv_at hl 5 rfl) ?_
  refine lv_iload hx hb dL_law_577 (lv_at hl 6 rfl) ?_
  refine lv_iconst (v := nI 1) hx hb dL_law_579 (by decide) ?_
  refine lv_iadd hx hb dL_law_580 ?_
  refine g_top (y := nI (i + 1)) (nI_add i 1) ?_
  refine va_sld hx hb hX hbl hbA hS (i := nI (i + 1)) (vp_in_nI (by omega) (by omega)) dL_law_581 ?_
  refine lv_aload_n hx hb dL_law_582 rfl (lv_at hl 5 rfl) ?_
  refine lv_iload hx hb dL_law_583 (lv_at hl 6 rfl) ?_
  refine lv_iconst (v := nI 2) hx hb dL_law_585 (by decide) ?_
  refine lv_iadd hx hb dL_law_586 ?_
  refine g_top (y := nI (i + 2)) (nI_add i 2) ?_
  refine va_sld hx hb hX hbl hbA hS (i := nI (i + 2)) (vp_in_nI (by omega) (by omega)) dL_law_587 ?_
  refine g_callV0 (y := yX3_count) (n := 2) (As := [.int (xs (nI (i + 1)).toNatClampNeg), .int (xs (nI (i + 2)).toNatClampNeg)]) (rest := []) hx hb hml hown hts hE hZ hP hS hl.1 (m_X3_count l D hAD σ1 th rs sg S N Z R9 T9 hM1 Ls (xs (nI (i + 1)).toNatClampNeg) (xs (nI (i + 2)).toNatClampNeg) hmr hvC) k_L_107 (ci := 3) (by decide) hM1.1 rfl rfl rfl rfl rfl ⟨rfl, rfl⟩ ⟨Nat.le_of_ble_eq_true rfl, Nat.le_of_ble_eq_true rfl⟩ (Nat.le_of_ble_eq_true rfl) ⟨by show cells + 10 ≤ room_1.cells; exact g_rmC (by omega), by show slots + 60 ≤ room_1.slots; exact g_rmS (by omega)⟩ dL_law_588 (fun v3 σ3 H locs hq hP hS => ?_)
  obtain ⟨hq3, ho3⟩ := hq
  obtain ⟨r3, rfl⟩ : ∃ r : Int32, v3 = some (.int r) := by
    rcases hq3 with ⟨-, ⟨_, _, _, _, _, _, hv9, _⟩⟩ | ⟨_, _, _, hv9, _⟩
    · exact ⟨_, hv9⟩
    · exact ⟨_, hv9⟩
  refine W.eq (g2 := F0 m 591 ls [.int r3]) rfl ?_
  obtain ⟨Ls3, hMM3⟩ : ∃ Ls3, g_MM D σ3 (nI (er_count (xs (nI (i + 1)).toNatClampNeg) (xs (nI (i + 2)).toNatClampNeg))) Ls3 := by
    rcases hq3 with ⟨he9, ⟨_, _, _, _, _, _, _, hmm9⟩⟩ | ⟨k9, he9, -, -, hmm9⟩
    · exact ⟨_, by rw [he9]; exact hmm9⟩
    · exact ⟨_, by rw [he9]; exact hmm9⟩
  obtain ⟨rs3, sg3, S3, N3, Z3, R3, T3, hM3, hmr3⟩ := id hMM3
  refine lv_istore (lv' := [(7, .int r3), (6, .int (nI (er_count (xs (nI (i + 1)).toNatClampNeg) (xs (nI (i + 2)).toNatClampNeg)))), (1, .ref (ad_ D 0)), (2, .ref (ad_ D 20)), (3, .ref (ad_ D 31)), (4, .ref (ad_ D 32)), (0, .ref b), (5, .int (nI i))]) hx hb dL_law_591 hl (by decide) rfl (fun ls hl => ?_)
  refine lv_aload_n hx hb dL_law_593 rfl (lv_at hl 3 rfl) ?_
  refine g_callV0 (y := yX3_thrown) (n := 0) (As := []) (rest := []) hx hb hml hown hts hE hZ hP hS hl.1 (m_X3_thrown l D hAD σ3 (nI (er_count (xs (nI (i + 1)).toNatClampNeg) (xs (nI (i + 2)).toNatClampNeg))) rs3 sg3 S3 N3 Z3 R3 T3 hM3) k_L_85 (ci := 3) (by decide) hM3.1 rfl rfl rfl rfl rfl ⟨rfl, rfl⟩ ⟨Nat.le_of_ble_eq_true rfl, Nat.le_of_ble_eq_true rfl⟩ (Nat.le_of_ble_eq_true rfl) ⟨by show cells + 10 ≤ room_1.cells; exact g_rmC (by omega), by show slots + 60 ≤ room_1.slots; exact g_rmS (by omega)⟩ dL_law_594 (fun v4 σ4 H locs hq hP hS => ?_)
  obtain ⟨rfl, rfl⟩ := hq
  refine W.eq (g2 := F0 m 597 ls [.int (nI (er_count (xs (nI (i + 1)).toNatClampNeg) (xs (nI (i + 2)).toNatClampNeg)))]) rfl ?_
  have hle9 : er_count (xs (nI (i + 1)).toNatClampNeg) (xs (nI (i + 2)).toNatClampNeg) ≤ 3 := by
    unfold er_count
    (repeat' split) <;> decide
  refine lv_iload hx hb dL_law_597 (lv_at hl 1 rfl) ?_
  refine lv_icmp_eq (tgt := 604) hx hb dL_law_599 (by decide) (fun h599 => ?_) (fun h599 => ?_)
  · refine lv_iload hx hb dL_law_604 (lv_at hl 1 rfl) ?_
    refine lv_if_ne (tgt := 621) hx hb dL_law_606 (by decide) (fun h606 => ?_) (fun h606 => ?_)
    · have hb606 := g_ne (a := er_count (xs (nI (i + 1)).toNatClampNeg) (xs (nI (i + 2)).toNatClampNeg)) (b := 0) h606 (by omega) (by omega)
      refine lv_goto (tgt := 1435) hx hb dL_law_621 (by decide) ?_
      obtain ⟨hne, hC1, ho1⟩ := hq1.resolve_left (fun z => hb606 z.1)
      obtain ⟨k9, -, -, -, hmm9⟩ := hq3.resolve_left (fun z => hne z.1)
      have hI9 : g_I9 D σ3 _ := ⟨hC1.off ho3 (by decide), hvC, ⟨_, hmm9⟩, ⟨_, (ho3 31 (by omega)).trans hO1⟩, ⟨_, (ho3 32 (by omega)).trans hOD1⟩⟩
      refine W.widen (k := cells + 12) (n := slots + 108) (by first | exact Nat.le_refl _ | (show cells + 10 ≤ cells + 12; omega)) (by first | exact Nat.le_refl _ | (show slots + 60 ≤ slots + 108; omega)) ?_
      exact kk σ3 _ _ _ _ hI9 hP hS (lv_sub hl [2, 3, 4, 5, 6, 7] rfl)
    · have hb606 := g_eq (a := er_count (xs (nI (i + 1)).toNatClampNeg) (xs (nI (i + 2)).toNatClampNeg)) (b := 0) h606 (by omega) (by omega)
      have he0 : er_count (xs (nI (i + 1)).toNatClampNeg) (xs (nI (i + 2)).toNatClampNeg) = 0 := hb606
      obtain ⟨-, r9, σ2, hok, hoff, hσ1⟩ := hq1.resolve_right (fun z => z.1 he0)
      obtain ⟨-, hok3⟩ := hq3.resolve_right (fun z => by obtain ⟨k9, z1, z2, -⟩ := z; omega)
      obtain ⟨vaw, vat, x0, x1, x2, x3, x4, x5⟩ := hok
      obtain ⟨vbw, vbt, y0, y1, y2, y3, y4, y5⟩ := hok3
      have hl24 := (hvC vbw y0).2
      have hzz := zs_le (show (Ls vbw).length ≤ 48 by omega)
      have ee : vbw = vaw := g_eq (y1.symm.trans x1) (by omega) (by omega)
      subst ee
      have ee : vbt = vat := g_eq (y3.symm.trans x3) (by omega) (by omega)
      subst ee
      have hr9 : r9 = r3 := Value.int.inj (Option.some.inj (x4.trans y4.symm))
      have hC1 := x5.up31 (k := 31) (e := .inl (g_cL D, 1, .inr (.inl (vp_updL f8 0 r9.toInt64)))) (by decide)
      rw [← hσ1] at hC1
      have hvC3 := hvC
      refine lv_aload_n hx hb dL_law_609 rfl (lv_at hl 4 rfl) ?_
      refine lv_iconst (v := nI 0) hx hb dL_law_610 (by decide) ?_
      have h31 : σ3 31 = .inl (g_cL D, 1, .inr (.inl (vp_updL f8 0 r9.toInt64))) := (ho3 31 (by omega)).trans (by rw [hσ1]; exact g_ups)
      refine g_laldO hx hb hE hP h31 (v := r9.toInt64) (by simp [vp_updL]) dL_law_611 ?_
      refine lv_iload hx hb dL_law_612 (lv_at hl 0 rfl) ?_
      refine lv_i2l (v := (r3).toInt64) hx hb dL_law_614 rfl ?_
      refine W.lcmp hx hb dL_law_615 ?_
      refine g_top (y := nI 0) (by rw [hr9]; exact lg_self) ?_
      refine lv_if_eq (tgt := 621) hx hb dL_law_616 (by decide) (fun h616 => ?_) (fun h616 => ?_)
      · refine lv_goto (tgt := 1435) hx hb dL_law_621 (by decide) ?_
        have hI9 : g_I9 D σ3 _ := ⟨hC1.off ho3 (by decide), hvC3, ⟨_, y5⟩, ⟨_, (ho3 31 (by omega)).trans hO1⟩, ⟨_, (ho3 32 (by omega)).trans hOD1⟩⟩
        refine W.widen (k := cells + 12) (n := slots + 108) (by first | exact Nat.le_refl _ | (show cells + 10 ≤ cells + 12; omega)) (by first | exact Nat.le_refl _ | (show slots + 60 ≤ slots + 108; omega)) ?_
        exact kk σ3 _ _ _ _ hI9 hP hS (lv_sub hl [2, 3, 4, 5, 6, 7] rfl)
      · exact absurd rfl h616
  · exact absurd rfl h599

set_option maxHeartbeats 4000000 in
set_option maxRecDepth 100000 in
theorem lc_sign {p : Program} {l : Launch} {e : Env} {s : State} {m : MethodId} {args : Array Value} {below : List Frame} {meth : Method} {c : Code} {H : Heap} {locs : List Loc} {cells slots : Nat} {Q : State → Prop} (hst : l.stackTraces = false) {D : va_G} (hAD : g_AD D) {σ : Nat → va_E} {Ls : Nat → g_L} (hI : g_I9 D σ Ls) (hx : p.tables.exec = Jvm.exec) (hb : c.code = cL_law) (hml : c.maxLocals = 9) (hown : s.vm.findClass RL = some m.cls) (hts : ∀ w ∈ g_WA, w.before args s = true) (hE : g_EV D s) (hZ : g_EZ (g_A D s.heap.size) s s.heap) {b L : Nat} {xs : Nat → Int32} (hX : va_X b L xs s s.heap) (hbl : b < s.heap.size) (hbA : ¬ g_A D s.heap.size b) {i : Nat} (hi : i + 5 ≤ L) (hL : L ≤ 2560) (hP : va_P D vwCl (g_W D σ) H) (hS : va_S (g_A D s.heap.size) s.heap H locs) {ls : Array Slot} (hl : lv_has ls 9 [(1, .ref (ad_ D 0)), (2, .ref (ad_ D 20)), (3, .ref (ad_ D 31)), (4, .ref (ad_ D 32)), (0, .ref b), (5, .int (nI i))]) (hcs : cells + 12 ≤ 600000) (hsl : slots + 108 ≤ 6500000)
    (kk : ∀ (σ9 : Nat → va_E) (Ls9 : Nat → g_L) (H : Heap) (locs : List Loc) (ls : Array Slot), g_I9 D σ9 Ls9 → va_P D vwCl (g_W D σ9) H → va_S (g_A D s.heap.size) s.heap H locs → lv_has ls 9 [(1, .ref (ad_ D 0)), (2, .ref (ad_ D 20)), (3, .ref (ad_ D 31)), (4, .ref (ad_ D 32)), (0, .ref b), (5, .int (nI i))] → W p l e room_1 s m args below meth c H locs (cells + 12) (slots + 108) Q (F0 m 1435 ls [])) : W p l e room_1 s m args below meth c H locs cells slots Q (F0 m 624 ls []) := by
  obtain ⟨hC, hvC, ⟨th, rs, sg, S, N, Z, R9, T9, hM, hmr⟩, ⟨f8, hO⟩, ⟨fD, hOD⟩⟩ := id hI
  refine lv_aload_n hx hb dL_law_624 rfl (lv_at hl 0 rfl) ?_
  refine lv_aload_n hx hb dL_law_625 rfl (lv_at hl 4 rfl) ?_
  refine lv_iload hx hb dL_law_626 (lv_at hl 5 rfl) ?_
  refine lv_iconst (v := nI 1) hx hb dL_law_628 (by decide) ?_
  refine lv_iadd hx hb dL_law_629 ?_
  refine g_top (y := nI (i + 1)) (nI_add i 1) ?_
  refine va_sld hx hb hX hbl hbA hS (i := nI (i + 1)) (vp_in_nI (by omega) (by omega)) dL_law_630 ?_
  refine lv_aload_n hx hb dL_law_631 rfl (lv_at hl 4 rfl) ?_
  refine lv_iload hx hb dL_law_632 (lv_at hl 5 rfl) ?_
  refine lv_iconst (v := nI 2) hx hb dL_law_634 (by decide) ?_
  refine lv_iadd hx hb dL_law_635 ?_
  refine g_top (y := nI (i + 2)) (nI_add i 2) ?_
  refine va_sld hx hb hX hbl hbA hS (i := nI (i + 2)) (vp_in_nI (by omega) (by omega)) dL_law_636 ?_
  refine lv_aload_n hx hb dL_law_637 rfl (lv_at hl 4 rfl) ?_
  refine lv_iload hx hb dL_law_638 (lv_at hl 5 rfl) ?_
  refine lv_iconst (v := nI 3) hx hb dL_law_640 (by decide) ?_
  refine lv_iadd hx hb dL_law_641 ?_
  refine g_top (y := nI (i + 3)) (nI_add i 3) ?_
  refine va_sld hx hb hX hbl hbA hS (i := nI (i + 3)) (vp_in_nI (by omega) (by omega)) dL_law_642 ?_
  refine lv_aload_n hx hb dL_law_643 rfl (lv_at hl 2 rfl) ?_
  refine g_callSH (y := yL_sign) (n := 5) (As := [.ref (ad_ D 0), .int (xs (nI (i + 1)).toNatClampNeg), .int (xs (nI (i + 2)).toNatClampNeg), .int (xs (nI (i + 3)).toNatClampNeg), .ref (ad_ D 31)]) (rest := []) hx hb hml hown hts hE hZ hP hS hl.1 (m_L_sign l hst D hAD σ Ls (xs (nI (i + 1)).toNatClampNeg) (xs (nI (i + 2)).toNatClampNeg) (xs (nI (i + 3)).toNatClampNeg) hC hvC f8 hO) k_H_sign rfl rfl ⟨Nat.le_of_ble_eq_true rfl, Nat.le_of_ble_eq_true rfl⟩ (Nat.le_of_ble_eq_true rfl) ⟨by show cells + 10 ≤ room_1.cells; exact g_rmC (by omega), by show slots + 60 ≤ room_1.slots; exact g_rmS (by omega)⟩ dL_law_644 (fun v σ1 H locs hq hP hS => ?_)
  obtain ⟨rfl, hq1⟩ := hq
  refine W.eq (g2 := F0 m 647 ls [.int (nI (er_sign Ls (xs (nI (i + 1)).toNatClampNeg) (xs (nI (i + 2)).toNatClampNeg) (xs (nI (i + 3)).toNatClampNeg)))]) rfl ?_
  obtain ⟨hk20, ⟨f9, hO1⟩, hOD1⟩ := wl_keep hO hq1
  rw [hOD] at hOD1
  have hM1 := hM.keep hk20
  refine lv_istore (lv' := [(6, .int (nI (er_sign Ls (xs (nI (i + 1)).toNatClampNeg) (xs (nI (i + 2)).toNatClampNeg) (xs (nI (i + 3)).toNatClampNeg)))), (1, .ref (ad_ D 0)), (2, .ref (ad_ D 20)), (3, .ref (ad_ D 31)), (4, .ref (ad_ D 32)), (0, .ref b), (5, .int (nI i))]) hx hb dL_law_647 hl (by decide) rfl (fun ls hl => ?_)
  refine lv_aload_n hx hb dL_law_649 rfl (lv_at hl 2 rfl) ?_
  refine lv_aload_n hx hb dL_law_650 rfl (lv_at hl 5 rfl) ?_
  refine lv_iload hx hb dL_law_651 (lv_at hl 6 rfl) ?_
  refine lv_iconst (v := nI 1) hx hb dL_law_653 (by decide) ?_
  refine lv_iadd hx hb dL_law_654 ?_
  refine g_top (y := nI (i + 1)) (nI_add i 1) ?_
  refine va_sld hx hb hX hbl hbA hS (i := nI (i + 1)) (vp_in_nI (by omega) (by omega)) dL_law_655 ?_
  refine lv_aload_n hx hb dL_law_656 rfl (lv_at hl 5 rfl) ?_
  refine lv_iload hx hb dL_law_657 (lv_at hl 6 rfl) ?_
  refine lv_iconst (v := nI 2) hx hb dL_law_659 (by decide) ?_
  refine lv_iadd hx hb dL_law_660 ?_
  refine g_top (y := nI (i + 2)) (nI_add i 2) ?_
  refine va_sld hx hb hX hbl hbA hS (i := nI (i + 2)) (vp_in_nI (by omega) (by omega)) dL_law_661 ?_
  refine lv_aload_n hx hb dL_law_662 rfl (lv_at hl 5 rfl) ?_
  refine lv_iload hx hb dL_law_663 (lv_at hl 6 rfl) ?_
  refine lv_iconst (v := nI 3) hx hb dL_law_665 (by decide) ?_
  refine lv_iadd hx hb dL_law_666 ?_
  refine g_top (y := nI (i + 3)) (nI_add i 3) ?_
  refine va_sld hx hb hX hbl hbA hS (i := nI (i + 3)) (vp_in_nI (by omega) (by omega)) dL_law_667 ?_
  refine g_callV0 (y := yX3_sign) (n := 3) (As := [.int (xs (nI (i + 1)).toNatClampNeg), .int (xs (nI (i + 2)).toNatClampNeg), .int (xs (nI (i + 3)).toNatClampNeg)]) (rest := []) hx hb hml hown hts hE hZ hP hS hl.1 (m_X3_sign l D hAD σ1 th rs sg S N Z R9 T9 hM1 Ls (xs (nI (i + 1)).toNatClampNeg) (xs (nI (i + 2)).toNatClampNeg) (xs (nI (i + 3)).toNatClampNeg) hmr hvC) k_L_110 (ci := 3) (by decide) hM1.1 rfl rfl rfl rfl rfl ⟨rfl, rfl⟩ ⟨Nat.le_of_ble_eq_true rfl, Nat.le_of_ble_eq_true rfl⟩ (Nat.le_of_ble_eq_true rfl) ⟨by show cells + 10 ≤ room_1.cells; exact g_rmC (by omega), by show slots + 60 ≤ room_1.slots; exact g_rmS (by omega)⟩ dL_law_668 (fun v3 σ3 H locs hq hP hS => ?_)
  obtain ⟨hq3, ho3⟩ := hq
  obtain ⟨r3, rfl⟩ : ∃ r : Int32, v3 = some (.int r) := by
    rcases hq3 with ⟨-, ⟨_, _, _, _, _, _, _, _, _, hv9, _⟩⟩ | ⟨_, _, _, hv9, _⟩
    · exact ⟨_, hv9⟩
    · exact ⟨_, hv9⟩
  refine W.eq (g2 := F0 m 671 ls [.int r3]) rfl ?_
  obtain ⟨Ls3, hMM3⟩ : ∃ Ls3, g_MM D σ3 (nI (er_sign Ls (xs (nI (i + 1)).toNatClampNeg) (xs (nI (i + 2)).toNatClampNeg) (xs (nI (i + 3)).toNatClampNeg))) Ls3 := by
    rcases hq3 with ⟨he9, ⟨_, _, _, _, _, _, _, _, _, _, hmm9⟩⟩ | ⟨k9, he9, -, -, hmm9⟩
    · exact ⟨_, by rw [he9]; exact hmm9⟩
    · exact ⟨_, by rw [he9]; exact hmm9⟩
  obtain ⟨rs3, sg3, S3, N3, Z3, R3, T3, hM3, hmr3⟩ := id hMM3
  refine lv_istore (lv' := [(7, .int r3), (6, .int (nI (er_sign Ls (xs (nI (i + 1)).toNatClampNeg) (xs (nI (i + 2)).toNatClampNeg) (xs (nI (i + 3)).toNatClampNeg)))), (1, .ref (ad_ D 0)), (2, .ref (ad_ D 20)), (3, .ref (ad_ D 31)), (4, .ref (ad_ D 32)), (0, .ref b), (5, .int (nI i))]) hx hb dL_law_671 hl (by decide) rfl (fun ls hl => ?_)
  refine lv_aload_n hx hb dL_law_673 rfl (lv_at hl 3 rfl) ?_
  refine g_callV0 (y := yX3_thrown) (n := 0) (As := []) (rest := []) hx hb hml hown hts hE hZ hP hS hl.1 (m_X3_thrown l D hAD σ3 (nI (er_sign Ls (xs (nI (i + 1)).toNatClampNeg) (xs (nI (i + 2)).toNatClampNeg) (xs (nI (i + 3)).toNatClampNeg))) rs3 sg3 S3 N3 Z3 R3 T3 hM3) k_L_85 (ci := 3) (by decide) hM3.1 rfl rfl rfl rfl rfl ⟨rfl, rfl⟩ ⟨Nat.le_of_ble_eq_true rfl, Nat.le_of_ble_eq_true rfl⟩ (Nat.le_of_ble_eq_true rfl) ⟨by show cells + 10 ≤ room_1.cells; exact g_rmC (by omega), by show slots + 60 ≤ room_1.slots; exact g_rmS (by omega)⟩ dL_law_674 (fun v4 σ4 H locs hq hP hS => ?_)
  obtain ⟨rfl, rfl⟩ := hq
  refine W.eq (g2 := F0 m 677 ls [.int (nI (er_sign Ls (xs (nI (i + 1)).toNatClampNeg) (xs (nI (i + 2)).toNatClampNeg) (xs (nI (i + 3)).toNatClampNeg)))]) rfl ?_
  have hle9 : er_sign Ls (xs (nI (i + 1)).toNatClampNeg) (xs (nI (i + 2)).toNatClampNeg) (xs (nI (i + 3)).toNatClampNeg) ≤ 3 := by
    unfold er_sign
    (repeat' split) <;> decide
  refine lv_iload hx hb dL_law_677 (lv_at hl 1 rfl) ?_
  refine lv_icmp_eq (tgt := 684) hx hb dL_law_679 (by decide) (fun h679 => ?_) (fun h679 => ?_)
  · refine lv_iload hx hb dL_law_684 (lv_at hl 1 rfl) ?_
    refine lv_if_ne (tgt := 701) hx hb dL_law_686 (by decide) (fun h686 => ?_) (fun h686 => ?_)
    · have hb686 := g_ne (a := er_sign Ls (xs (nI (i + 1)).toNatClampNeg) (xs (nI (i + 2)).toNatClampNeg) (xs (nI (i + 3)).toNatClampNeg)) (b := 0) h686 (by omega) (by omega)
      refine lv_goto (tgt := 1435) hx hb dL_law_701 (by decide) ?_
      obtain ⟨hne, hC1, ho1⟩ := hq1.resolve_left (fun z => hb686 z.1)
      obtain ⟨k9, -, -, -, hmm9⟩ := hq3.resolve_left (fun z => hne z.1)
      have hI9 : g_I9 D σ3 _ := ⟨hC1.off ho3 (by decide), hvC, ⟨_, hmm9⟩, ⟨_, (ho3 31 (by omega)).trans hO1⟩, ⟨_, (ho3 32 (by omega)).trans hOD1⟩⟩
      refine W.widen (k := cells + 12) (n := slots + 108) (by first | exact Nat.le_refl _ | (show cells + 10 ≤ cells + 12; omega)) (by first | exact Nat.le_refl _ | (show slots + 60 ≤ slots + 108; omega)) ?_
      exact kk σ3 _ _ _ _ hI9 hP hS (lv_sub hl [2, 3, 4, 5, 6, 7] rfl)
    · have hb686 := g_eq (a := er_sign Ls (xs (nI (i + 1)).toNatClampNeg) (xs (nI (i + 2)).toNatClampNeg) (xs (nI (i + 3)).toNatClampNeg)) (b := 0) h686 (by omega) (by omega)
      have he0 : er_sign Ls (xs (nI (i + 1)).toNatClampNeg) (xs (nI (i + 2)).toNatClampNeg) (xs (nI (i + 3)).toNatClampNeg) = 0 := hb686
      obtain ⟨-, r9, σ2, hok, hoff, hσ1⟩ := hq1.resolve_right (fun z => z.1 he0)
      obtain ⟨-, hok3⟩ := hq3.resolve_right (fun z => by obtain ⟨k9, z1, z2, -⟩ := z; omega)
      obtain ⟨vaw, vap, vat, x0, x1, x2, x3, x4, x5, x6, x7⟩ := hok
      obtain ⟨vbw, vbp9, vbt, y0, y1, y2, y3, y4, y5, y6, y7⟩ := hok3
      have hl24 := (hvC vbw y0).2
      have hzz := zs_le (show (Ls vbw).length ≤ 48 by omega)
      have ee : vbw = vaw := g_eq (y1.symm.trans x1) (by omega) (by omega)
      subst ee
      have ee : vbp9 = vap := g_eq (y3.symm.trans x3) (by omega) (by omega)
      subst ee
      have ee : vbt = vat := g_eq (y5.symm.trans x5) (by omega) (by omega)
      subst ee
      have hr9 : r9 = r3 := Value.int.inj (Option.some.inj (x6.trans y6.symm))
      have hC1 := x7.up31 (k := 31) (e := .inl (g_cL D, 1, .inr (.inl (vp_updL f8 0 r9.toInt64)))) (by decide)
      rw [← hσ1] at hC1
      have hvC3 := hvC
      refine lv_aload_n hx hb dL_law_689 rfl (lv_at hl 4 rfl) ?_
      refine lv_iconst (v := nI 0) hx hb dL_law_690 (by decide) ?_
      have h31 : σ3 31 = .inl (g_cL D, 1, .inr (.inl (vp_updL f8 0 r9.toInt64))) := (ho3 31 (by omega)).trans (by rw [hσ1]; exact g_ups)
      refine g_laldO hx hb hE hP h31 (v := r9.toInt64) (by simp [vp_updL]) dL_law_691 ?_
      refine lv_iload hx hb dL_law_692 (lv_at hl 0 rfl) ?_
      refine lv_i2l (v := (r3).toInt64) hx hb dL_law_694 rfl ?_
      refine W.lcmp hx hb dL_law_695 ?_
      refine g_top (y := nI 0) (by rw [hr9]; exact lg_self) ?_
      refine lv_if_eq (tgt := 701) hx hb dL_law_696 (by decide) (fun h696 => ?_) (fun h696 => ?_)
      · refine lv_goto (tgt := 1435) hx hb dL_law_701 (by decide) ?_
        have hI9 : g_I9 D σ3 _ := ⟨hC1.off ho3 (by decide), hvC3, ⟨_, y7⟩, ⟨_, (ho3 31 (by omega)).trans hO1⟩, ⟨_, (ho3 32 (by omega)).trans hOD1⟩⟩
        refine W.widen (k := cells + 12) (n := slots + 108) (by first | exact Nat.le_refl _ | (show cells + 10 ≤ cells + 12; omega)) (by first | exact Nat.le_refl _ | (show slots + 60 ≤ slots + 108; omega)) ?_
        exact kk σ3 _ _ _ _ hI9 hP hS (lv_sub hl [2, 3, 4, 5, 6, 7] rfl)
      · exact absurd rfl h696
  · exact absurd rfl h679

set_option maxHeartbeats 4000000 in
set_option maxRecDepth 100000 in
theorem lc_walk {p : Program} {l : Launch} {e : Env} {s : State} {m : MethodId} {args : Array Value} {below : List Frame} {meth : Method} {c : Code} {H : Heap} {locs : List Loc} {cells slots : Nat} {Q : State → Prop} (hst : l.stackTraces = false) {D : va_G} (hAD : g_AD D) {σ : Nat → va_E} {Ls : Nat → g_L} (hI : g_I9 D σ Ls) (hx : p.tables.exec = Jvm.exec) (hb : c.code = cL_law) (hml : c.maxLocals = 9) (hown : s.vm.findClass RL = some m.cls) (hts : ∀ w ∈ g_WA, w.before args s = true) (hE : g_EV D s) (hZ : g_EZ (g_A D s.heap.size) s s.heap) {b L : Nat} {xs : Nat → Int32} (hX : va_X b L xs s s.heap) (hbl : b < s.heap.size) (hbA : ¬ g_A D s.heap.size b) {i : Nat} (hi : i + 5 ≤ L) (hL : L ≤ 2560) (hP : va_P D vwCl (g_W D σ) H) (hS : va_S (g_A D s.heap.size) s.heap H locs) {ls : Array Slot} (hl : lv_has ls 9 [(1, .ref (ad_ D 0)), (2, .ref (ad_ D 20)), (3, .ref (ad_ D 31)), (4, .ref (ad_ D 32)), (0, .ref b), (5, .int (nI i))]) (hcs : cells + 12 ≤ 600000) (hsl : slots + 108 ≤ 6500000)
    (kk : ∀ (σ9 : Nat → va_E) (Ls9 : Nat → g_L) (H : Heap) (locs : List Loc) (ls : Array Slot), g_I9 D σ9 Ls9 → va_P D vwCl (g_W D σ9) H → va_S (g_A D s.heap.size) s.heap H locs → lv_has ls 9 [(1, .ref (ad_ D 0)), (2, .ref (ad_ D 20)), (3, .ref (ad_ D 31)), (4, .ref (ad_ D 32)), (0, .ref b), (5, .int (nI i))] → W p l e room_1 s m args below meth c H locs (cells + 12) (slots + 108) Q (F0 m 1435 ls [])) : W p l e room_1 s m args below meth c H locs cells slots Q (F0 m 704 ls []) := by
  obtain ⟨hC, hvC, ⟨th, rs, sg, S, N, Z, R9, T9, hM, hmr⟩, ⟨f8, hO⟩, ⟨fD, hOD⟩⟩ := id hI
  refine lv_aload_n hx hb dL_law_704 rfl (lv_at hl 0 rfl) ?_
  refine lv_aload_n hx hb dL_law_705 rfl (lv_at hl 4 rfl) ?_
  refine lv_iload hx hb dL_law_706 (lv_at hl 5 rfl) ?_
  refine lv_iconst (v := nI 1) hx hb dL_law_708 (by decide) ?_
  refine lv_iadd hx hb dL_law_709 ?_
  refine g_top (y := nI (i + 1)) (nI_add i 1) ?_
  refine va_sld hx hb hX hbl hbA hS (i := nI (i + 1)) (vp_in_nI (by omega) (by omega)) dL_law_710 ?_
  refine lv_aload_n hx hb dL_law_711 rfl (lv_at hl 4 rfl) ?_
  refine lv_iload hx hb dL_law_712 (lv_at hl 5 rfl) ?_
  refine lv_iconst (v := nI 2) hx hb dL_law_714 (by decide) ?_
  refine lv_iadd hx hb dL_law_715 ?_
  refine g_top (y := nI (i + 2)) (nI_add i 2) ?_
  refine va_sld hx hb hX hbl hbA hS (i := nI (i + 2)) (vp_in_nI (by omega) (by omega)) dL_law_716 ?_
  refine lv_aload_n hx hb dL_law_717 rfl (lv_at hl 4 rfl) ?_
  refine lv_iload hx hb dL_law_718 (lv_at hl 5 rfl) ?_
  refine lv_iconst (v := nI 3) hx hb dL_law_720 (by decide) ?_
  refine lv_iadd hx hb dL_law_721 ?_
  refine g_top (y := nI (i + 3)) (nI_add i 3) ?_
  refine va_sld hx hb hX hbl hbA hS (i := nI (i + 3)) (vp_in_nI (by omega) (by omega)) dL_law_722 ?_
  refine lv_aload_n hx hb dL_law_723 rfl (lv_at hl 2 rfl) ?_
  refine g_callSH (y := yL_walk) (n := 5) (As := [.ref (ad_ D 0), .int (xs (nI (i + 1)).toNatClampNeg), .int (xs (nI (i + 2)).toNatClampNeg), .int (xs (nI (i + 3)).toNatClampNeg), .ref (ad_ D 31)]) (rest := []) hx hb hml hown hts hE hZ hP hS hl.1 (m_L_walk l hst D hAD σ Ls (xs (nI (i + 1)).toNatClampNeg) (xs (nI (i + 2)).toNatClampNeg) (xs (nI (i + 3)).toNatClampNeg) hC hvC f8 hO) k_H_walk rfl rfl ⟨Nat.le_of_ble_eq_true rfl, Nat.le_of_ble_eq_true rfl⟩ (Nat.le_of_ble_eq_true rfl) ⟨by show cells + 10 ≤ room_1.cells; exact g_rmC (by omega), by show slots + 60 ≤ room_1.slots; exact g_rmS (by omega)⟩ dL_law_724 (fun v σ1 H locs hq hP hS => ?_)
  obtain ⟨rfl, hq1⟩ := hq
  refine W.eq (g2 := F0 m 727 ls [.int (nI (er_walk Ls (xs (nI (i + 1)).toNatClampNeg) (xs (nI (i + 2)).toNatClampNeg) (xs (nI (i + 3)).toNatClampNeg)))]) rfl ?_
  obtain ⟨hk20, ⟨f9, hO1⟩, hOD1⟩ := wl_keep hO hq1
  rw [hOD] at hOD1
  have hM1 := hM.keep hk20
  refine lv_istore (lv' := [(6, .int (nI (er_walk Ls (xs (nI (i + 1)).toNatClampNeg) (xs (nI (i + 2)).toNatClampNeg) (xs (nI (i + 3)).toNatClampNeg)))), (1, .ref (ad_ D 0)), (2, .ref (ad_ D 20)), (3, .ref (ad_ D 31)), (4, .ref (ad_ D 32)), (0, .ref b), (5, .int (nI i))]) hx hb dL_law_727 hl (by decide) rfl (fun ls hl => ?_)
  refine lv_aload_n hx hb dL_law_729 rfl (lv_at hl 2 rfl) ?_
  refine lv_aload_n hx hb dL_law_730 rfl (lv_at hl 5 rfl) ?_
  refine lv_iload hx hb dL_law_731 (lv_at hl 6 rfl) ?_
  refine lv_iconst (v := nI 1) hx hb dL_law_733 (by decide) ?_
  refine lv_iadd hx hb dL_law_734 ?_
  refine g_top (y := nI (i + 1)) (nI_add i 1) ?_
  refine va_sld hx hb hX hbl hbA hS (i := nI (i + 1)) (vp_in_nI (by omega) (by omega)) dL_law_735 ?_
  refine lv_aload_n hx hb dL_law_736 rfl (lv_at hl 5 rfl) ?_
  refine lv_iload hx hb dL_law_737 (lv_at hl 6 rfl) ?_
  refine lv_iconst (v := nI 2) hx hb dL_law_739 (by decide) ?_
  refine lv_iadd hx hb dL_law_740 ?_
  refine g_top (y := nI (i + 2)) (nI_add i 2) ?_
  refine va_sld hx hb hX hbl hbA hS (i := nI (i + 2)) (vp_in_nI (by omega) (by omega)) dL_law_741 ?_
  refine lv_aload_n hx hb dL_law_742 rfl (lv_at hl 5 rfl) ?_
  refine lv_iload hx hb dL_law_743 (lv_at hl 6 rfl) ?_
  refine lv_iconst (v := nI 3) hx hb dL_law_745 (by decide) ?_
  refine lv_iadd hx hb dL_law_746 ?_
  refine g_top (y := nI (i + 3)) (nI_add i 3) ?_
  refine va_sld hx hb hX hbl hbA hS (i := nI (i + 3)) (vp_in_nI (by omega) (by omega)) dL_law_747 ?_
  refine g_callV0 (y := yX3_walk) (n := 3) (As := [.int (xs (nI (i + 1)).toNatClampNeg), .int (xs (nI (i + 2)).toNatClampNeg), .int (xs (nI (i + 3)).toNatClampNeg)]) (rest := []) hx hb hml hown hts hE hZ hP hS hl.1 (m_X3_walk l D hAD σ1 th rs sg S N Z R9 T9 hM1 Ls (xs (nI (i + 1)).toNatClampNeg) (xs (nI (i + 2)).toNatClampNeg) (xs (nI (i + 3)).toNatClampNeg) hmr hvC) k_L_113 (ci := 3) (by decide) hM1.1 rfl rfl rfl rfl rfl ⟨rfl, rfl⟩ ⟨Nat.le_of_ble_eq_true rfl, Nat.le_of_ble_eq_true rfl⟩ (Nat.le_of_ble_eq_true rfl) ⟨by show cells + 10 ≤ room_1.cells; exact g_rmC (by omega), by show slots + 60 ≤ room_1.slots; exact g_rmS (by omega)⟩ dL_law_748 (fun v3 σ3 H locs hq hP hS => ?_)
  obtain ⟨hq3, ho3⟩ := hq
  obtain ⟨r3, rfl⟩ : ∃ r : Int32, v3 = some (.int r) := by
    rcases hq3 with ⟨-, ⟨_, _, _, _, _, _, _, _, hv9, _⟩⟩ | ⟨_, _, _, hv9, _⟩
    · exact ⟨_, hv9⟩
    · exact ⟨_, hv9⟩
  refine W.eq (g2 := F0 m 751 ls [.int r3]) rfl ?_
  obtain ⟨Ls3, hMM3⟩ : ∃ Ls3, g_MM D σ3 (nI (er_walk Ls (xs (nI (i + 1)).toNatClampNeg) (xs (nI (i + 2)).toNatClampNeg) (xs (nI (i + 3)).toNatClampNeg))) Ls3 := by
    rcases hq3 with ⟨he9, ⟨_, _, _, _, _, _, _, _, _, hmm9⟩⟩ | ⟨k9, he9, -, -, hmm9⟩
    · exact ⟨_, by rw [he9]; exact hmm9⟩
    · exact ⟨_, by rw [he9]; exact hmm9⟩
  obtain ⟨rs3, sg3, S3, N3, Z3, R3, T3, hM3, hmr3⟩ := id hMM3
  refine lv_istore (lv' := [(7, .int r3), (6, .int (nI (er_walk Ls (xs (nI (i + 1)).toNatClampNeg) (xs (nI (i + 2)).toNatClampNeg) (xs (nI (i + 3)).toNatClampNeg)))), (1, .ref (ad_ D 0)), (2, .ref (ad_ D 20)), (3, .ref (ad_ D 31)), (4, .ref (ad_ D 32)), (0, .ref b), (5, .int (nI i))]) hx hb dL_law_751 hl (by decide) rfl (fun ls hl => ?_)
  refine lv_aload_n hx hb dL_law_753 rfl (lv_at hl 3 rfl) ?_
  refine g_callV0 (y := yX3_thrown) (n := 0) (As := []) (rest := []) hx hb hml hown hts hE hZ hP hS hl.1 (m_X3_thrown l D hAD σ3 (nI (er_walk Ls (xs (nI (i + 1)).toNatClampNeg) (xs (nI (i + 2)).toNatClampNeg) (xs (nI (i + 3)).toNatClampNeg))) rs3 sg3 S3 N3 Z3 R3 T3 hM3) k_L_85 (ci := 3) (by decide) hM3.1 rfl rfl rfl rfl rfl ⟨rfl, rfl⟩ ⟨Nat.le_of_ble_eq_true rfl, Nat.le_of_ble_eq_true rfl⟩ (Nat.le_of_ble_eq_true rfl) ⟨by show cells + 10 ≤ room_1.cells; exact g_rmC (by omega), by show slots + 60 ≤ room_1.slots; exact g_rmS (by omega)⟩ dL_law_754 (fun v4 σ4 H locs hq hP hS => ?_)
  obtain ⟨rfl, rfl⟩ := hq
  refine W.eq (g2 := F0 m 757 ls [.int (nI (er_walk Ls (xs (nI (i + 1)).toNatClampNeg) (xs (nI (i + 2)).toNatClampNeg) (xs (nI (i + 3)).toNatClampNeg)))]) rfl ?_
  have hle9 : er_walk Ls (xs (nI (i + 1)).toNatClampNeg) (xs (nI (i + 2)).toNatClampNeg) (xs (nI (i + 3)).toNatClampNeg) ≤ 3 := by
    unfold er_walk
    (repeat' split) <;> decide
  refine lv_iload hx hb dL_law_757 (lv_at hl 1 rfl) ?_
  refine lv_icmp_eq (tgt := 764) hx hb dL_law_759 (by decide) (fun h759 => ?_) (fun h759 => ?_)
  · refine lv_iload hx hb dL_law_764 (lv_at hl 1 rfl) ?_
    refine lv_if_ne (tgt := 781) hx hb dL_law_766 (by decide) (fun h766 => ?_) (fun h766 => ?_)
    · have hb766 := g_ne (a := er_walk Ls (xs (nI (i + 1)).toNatClampNeg) (xs (nI (i + 2)).toNatClampNeg) (xs (nI (i + 3)).toNatClampNeg)) (b := 0) h766 (by omega) (by omega)
      refine lv_goto (tgt := 1435) hx hb dL_law_781 (by decide) ?_
      obtain ⟨hne, hC1, ho1⟩ := hq1.resolve_left (fun z => hb766 z.1)
      obtain ⟨k9, -, -, -, hmm9⟩ := hq3.resolve_left (fun z => hne z.1)
      have hI9 : g_I9 D σ3 _ := ⟨hC1.off ho3 (by decide), hvC, ⟨_, hmm9⟩, ⟨_, (ho3 31 (by omega)).trans hO1⟩, ⟨_, (ho3 32 (by omega)).trans hOD1⟩⟩
      refine W.widen (k := cells + 12) (n := slots + 108) (by first | exact Nat.le_refl _ | (show cells + 10 ≤ cells + 12; omega)) (by first | exact Nat.le_refl _ | (show slots + 60 ≤ slots + 108; omega)) ?_
      exact kk σ3 _ _ _ _ hI9 hP hS (lv_sub hl [2, 3, 4, 5, 6, 7] rfl)
    · have hb766 := g_eq (a := er_walk Ls (xs (nI (i + 1)).toNatClampNeg) (xs (nI (i + 2)).toNatClampNeg) (xs (nI (i + 3)).toNatClampNeg)) (b := 0) h766 (by omega) (by omega)
      have he0 : er_walk Ls (xs (nI (i + 1)).toNatClampNeg) (xs (nI (i + 2)).toNatClampNeg) (xs (nI (i + 3)).toNatClampNeg) = 0 := hb766
      obtain ⟨-, r9, σ2, hok, hoff, hσ1⟩ := hq1.resolve_right (fun z => z.1 he0)
      obtain ⟨-, hok3⟩ := hq3.resolve_right (fun z => by obtain ⟨k9, z1, z2, -⟩ := z; omega)
      obtain ⟨vaw, vat, x0, x1, x2, x3, x4, x5, x6, x7⟩ := hok
      obtain ⟨vbw, vbt, y0, y1, y2, y3, y4, y5, y6, y7⟩ := hok3
      have hl24 := (hvC vbw y0).2
      have hzz := zs_le (show (Ls vbw).length ≤ 48 by omega)
      have ee : vbw = vaw := g_eq (y1.symm.trans x1) (by omega) (by omega)
      subst ee
      have ee : vbt = vat := g_eq (y3.symm.trans x3) (by omega) (by omega)
      subst ee
      have hr9 : r9 = r3 := Value.int.inj (Option.some.inj (x6.trans y6.symm))
      have hC1 := x7.up31 (k := 31) (e := .inl (g_cL D, 1, .inr (.inl (vp_updL f8 0 r9.toInt64)))) (by decide)
      rw [← hσ1] at hC1
      have hvC3 := hvC
      refine lv_aload_n hx hb dL_law_769 rfl (lv_at hl 4 rfl) ?_
      refine lv_iconst (v := nI 0) hx hb dL_law_770 (by decide) ?_
      have h31 : σ3 31 = .inl (g_cL D, 1, .inr (.inl (vp_updL f8 0 r9.toInt64))) := (ho3 31 (by omega)).trans (by rw [hσ1]; exact g_ups)
      refine g_laldO hx hb hE hP h31 (v := r9.toInt64) (by simp [vp_updL]) dL_law_771 ?_
      refine lv_iload hx hb dL_law_772 (lv_at hl 0 rfl) ?_
      refine lv_i2l (v := (r3).toInt64) hx hb dL_law_774 rfl ?_
      refine W.lcmp hx hb dL_law_775 ?_
      refine g_top (y := nI 0) (by rw [hr9]; exact lg_self) ?_
      refine lv_if_eq (tgt := 781) hx hb dL_law_776 (by decide) (fun h776 => ?_) (fun h776 => ?_)
      · refine lv_goto (tgt := 1435) hx hb dL_law_781 (by decide) ?_
        have hI9 : g_I9 D σ3 _ := ⟨hC1.off ho3 (by decide), hvC3, ⟨_, y7⟩, ⟨_, (ho3 31 (by omega)).trans hO1⟩, ⟨_, (ho3 32 (by omega)).trans hOD1⟩⟩
        refine W.widen (k := cells + 12) (n := slots + 108) (by first | exact Nat.le_refl _ | (show cells + 10 ≤ cells + 12; omega)) (by first | exact Nat.le_refl _ | (show slots + 60 ≤ slots + 108; omega)) ?_
        exact kk σ3 _ _ _ _ hI9 hP hS (lv_sub hl [2, 3, 4, 5, 6, 7] rfl)
      · exact absurd rfl h776
  · exact absurd rfl h759

set_option maxHeartbeats 4000000 in
set_option maxRecDepth 100000 in
theorem lc_at {p : Program} {l : Launch} {e : Env} {s : State} {m : MethodId} {args : Array Value} {below : List Frame} {meth : Method} {c : Code} {H : Heap} {locs : List Loc} {cells slots : Nat} {Q : State → Prop} (hst : l.stackTraces = false) {D : va_G} (hAD : g_AD D) {σ : Nat → va_E} {Ls : Nat → g_L} (hI : g_I9 D σ Ls) (hx : p.tables.exec = Jvm.exec) (hb : c.code = cL_law) (hml : c.maxLocals = 9) (hown : s.vm.findClass RL = some m.cls) (hts : ∀ w ∈ g_WA, w.before args s = true) (hE : g_EV D s) (hZ : g_EZ (g_A D s.heap.size) s s.heap) {b L : Nat} {xs : Nat → Int32} (hX : va_X b L xs s s.heap) (hbl : b < s.heap.size) (hbA : ¬ g_A D s.heap.size b) {i : Nat} (hi : i + 5 ≤ L) (hL : L ≤ 2560) (hP : va_P D vwCl (g_W D σ) H) (hS : va_S (g_A D s.heap.size) s.heap H locs) {ls : Array Slot} (hl : lv_has ls 9 [(1, .ref (ad_ D 0)), (2, .ref (ad_ D 20)), (3, .ref (ad_ D 31)), (4, .ref (ad_ D 32)), (0, .ref b), (5, .int (nI i))]) (hcs : cells + 12 ≤ 600000) (hsl : slots + 108 ≤ 6500000)
    (kk : ∀ (σ9 : Nat → va_E) (Ls9 : Nat → g_L) (H : Heap) (locs : List Loc) (ls : Array Slot), g_I9 D σ9 Ls9 → va_P D vwCl (g_W D σ9) H → va_S (g_A D s.heap.size) s.heap H locs → lv_has ls 9 [(1, .ref (ad_ D 0)), (2, .ref (ad_ D 20)), (3, .ref (ad_ D 31)), (4, .ref (ad_ D 32)), (0, .ref b), (5, .int (nI i))] → W p l e room_1 s m args below meth c H locs (cells + 12) (slots + 108) Q (F0 m 1435 ls [])) : W p l e room_1 s m args below meth c H locs cells slots Q (F0 m 880 ls []) := by
  obtain ⟨hC, hvC, ⟨th, rs, sg, S, N, Z, R9, T9, hM, hmr⟩, ⟨f8, hO⟩, ⟨fD, hOD⟩⟩ := id hI
  refine lv_aload_n hx hb dL_law_880 rfl (lv_at hl 0 rfl) ?_
  refine lv_aload_n hx hb dL_law_881 rfl (lv_at hl 4 rfl) ?_
  refine lv_iload hx hb dL_law_882 (lv_at hl 5 rfl) ?_
  refine lv_iconst (v := nI 1) hx hb dL_law_884 (by decide) ?_
  refine lv_iadd hx hb dL_law_885 ?_
  refine g_top (y := nI (i + 1)) (nI_add i 1) ?_
  refine va_sld hx hb hX hbl hbA hS (i := nI (i + 1)) (vp_in_nI (by omega) (by omega)) dL_law_886 ?_
  refine lv_aload_n hx hb dL_law_887 rfl (lv_at hl 4 rfl) ?_
  refine lv_iload hx hb dL_law_888 (lv_at hl 5 rfl) ?_
  refine lv_iconst (v := nI 2) hx hb dL_law_890 (by decide) ?_
  refine lv_iadd hx hb dL_law_891 ?_
  refine g_top (y := nI (i + 2)) (nI_add i 2) ?_
  refine va_sld hx hb hX hbl hbA hS (i := nI (i + 2)) (vp_in_nI (by omega) (by omega)) dL_law_892 ?_
  refine lv_aload_n hx hb dL_law_893 rfl (lv_at hl 2 rfl) ?_
  refine g_callSH (y := yL_at) (n := 4) (As := [.ref (ad_ D 0), .int (xs (nI (i + 1)).toNatClampNeg), .int (xs (nI (i + 2)).toNatClampNeg), .ref (ad_ D 31)]) (rest := []) hx hb hml hown hts hE hZ hP hS hl.1 (m_L_at l hst D hAD σ Ls (xs (nI (i + 1)).toNatClampNeg) (xs (nI (i + 2)).toNatClampNeg) hC hvC f8 hO) k_H_at rfl rfl ⟨Nat.le_of_ble_eq_true rfl, Nat.le_of_ble_eq_true rfl⟩ (Nat.le_of_ble_eq_true rfl) ⟨by show cells + 10 ≤ room_1.cells; exact g_rmC (by omega), by show slots + 60 ≤ room_1.slots; exact g_rmS (by omega)⟩ dL_law_894 (fun v σ1 H locs hq hP hS => ?_)
  obtain ⟨rfl, hq1⟩ := hq
  refine W.eq (g2 := F0 m 897 ls [.int (nI (er_at Ls (xs (nI (i + 1)).toNatClampNeg) (xs (nI (i + 2)).toNatClampNeg)))]) rfl ?_
  obtain ⟨hk20, ⟨f9, hO1⟩, hOD1⟩ := wl_keep hO hq1
  rw [hOD] at hOD1
  have hM1 := hM.keep hk20
  refine lv_istore (lv' := [(6, .int (nI (er_at Ls (xs (nI (i + 1)).toNatClampNeg) (xs (nI (i + 2)).toNatClampNeg)))), (1, .ref (ad_ D 0)), (2, .ref (ad_ D 20)), (3, .ref (ad_ D 31)), (4, .ref (ad_ D 32)), (0, .ref b), (5, .int (nI i))]) hx hb dL_law_897 hl (by decide) rfl (fun ls hl => ?_)
  refine lv_aload_n hx hb dL_law_899 rfl (lv_at hl 2 rfl) ?_
  refine lv_aload_n hx hb dL_law_900 rfl (lv_at hl 5 rfl) ?_
  refine lv_iload hx hb dL_law_901 (lv_at hl 6 rfl) ?_
  refine lv_iconst (v := nI 1) hx hb dL_law_903 (by decide) ?_
  refine lv_iadd hx hb dL_law_904 ?_
  refine g_top (y := nI (i + 1)) (nI_add i 1) ?_
  refine va_sld hx hb hX hbl hbA hS (i := nI (i + 1)) (vp_in_nI (by omega) (by omega)) dL_law_905 ?_
  refine lv_aload_n hx hb dL_law_906 rfl (lv_at hl 5 rfl) ?_
  refine lv_iload hx hb dL_law_907 (lv_at hl 6 rfl) ?_
  refine lv_iconst (v := nI 2) hx hb dL_law_909 (by decide) ?_
  refine lv_iadd hx hb dL_law_910 ?_
  refine g_top (y := nI (i + 2)) (nI_add i 2) ?_
  refine va_sld hx hb hX hbl hbA hS (i := nI (i + 2)) (vp_in_nI (by omega) (by omega)) dL_law_911 ?_
  refine g_callV0 (y := yX3_at) (n := 2) (As := [.int (xs (nI (i + 1)).toNatClampNeg), .int (xs (nI (i + 2)).toNatClampNeg)]) (rest := []) hx hb hml hown hts hE hZ hP hS hl.1 (m_X3_at l D hAD σ1 th rs sg S N Z R9 T9 hM1 Ls (xs (nI (i + 1)).toNatClampNeg) (xs (nI (i + 2)).toNatClampNeg) hmr hvC) k_L_120 (ci := 3) (by decide) hM1.1 rfl rfl rfl rfl rfl ⟨rfl, rfl⟩ ⟨Nat.le_of_ble_eq_true rfl, Nat.le_of_ble_eq_true rfl⟩ (Nat.le_of_ble_eq_true rfl) ⟨by show cells + 10 ≤ room_1.cells; exact g_rmC (by omega), by show slots + 60 ≤ room_1.slots; exact g_rmS (by omega)⟩ dL_law_912 (fun v3 σ3 H locs hq hP hS => ?_)
  obtain ⟨hq3, ho3⟩ := hq
  obtain ⟨r3, rfl⟩ : ∃ r : Int32, v3 = some (.int r) := by
    rcases hq3 with ⟨-, ⟨_, _, _, _, _, _, hv9, _⟩⟩ | ⟨_, _, _, hv9, _⟩
    · exact ⟨_, hv9⟩
    · exact ⟨_, hv9⟩
  refine W.eq (g2 := F0 m 915 ls [.int r3]) rfl ?_
  obtain ⟨Ls3, hMM3⟩ : ∃ Ls3, g_MM D σ3 (nI (er_at Ls (xs (nI (i + 1)).toNatClampNeg) (xs (nI (i + 2)).toNatClampNeg))) Ls3 := by
    rcases hq3 with ⟨he9, ⟨_, _, _, _, _, _, _, hmm9⟩⟩ | ⟨k9, he9, -, -, hmm9⟩
    · exact ⟨_, by rw [he9]; exact hmm9⟩
    · exact ⟨_, by rw [he9]; exact hmm9⟩
  obtain ⟨rs3, sg3, S3, N3, Z3, R3, T3, hM3, hmr3⟩ := id hMM3
  refine lv_istore (lv' := [(7, .int r3), (6, .int (nI (er_at Ls (xs (nI (i + 1)).toNatClampNeg) (xs (nI (i + 2)).toNatClampNeg)))), (1, .ref (ad_ D 0)), (2, .ref (ad_ D 20)), (3, .ref (ad_ D 31)), (4, .ref (ad_ D 32)), (0, .ref b), (5, .int (nI i))]) hx hb dL_law_915 hl (by decide) rfl (fun ls hl => ?_)
  refine lv_aload_n hx hb dL_law_917 rfl (lv_at hl 3 rfl) ?_
  refine g_callV0 (y := yX3_thrown) (n := 0) (As := []) (rest := []) hx hb hml hown hts hE hZ hP hS hl.1 (m_X3_thrown l D hAD σ3 (nI (er_at Ls (xs (nI (i + 1)).toNatClampNeg) (xs (nI (i + 2)).toNatClampNeg))) rs3 sg3 S3 N3 Z3 R3 T3 hM3) k_L_85 (ci := 3) (by decide) hM3.1 rfl rfl rfl rfl rfl ⟨rfl, rfl⟩ ⟨Nat.le_of_ble_eq_true rfl, Nat.le_of_ble_eq_true rfl⟩ (Nat.le_of_ble_eq_true rfl) ⟨by show cells + 10 ≤ room_1.cells; exact g_rmC (by omega), by show slots + 60 ≤ room_1.slots; exact g_rmS (by omega)⟩ dL_law_918 (fun v4 σ4 H locs hq hP hS => ?_)
  obtain ⟨rfl, rfl⟩ := hq
  refine W.eq (g2 := F0 m 921 ls [.int (nI (er_at Ls (xs (nI (i + 1)).toNatClampNeg) (xs (nI (i + 2)).toNatClampNeg)))]) rfl ?_
  have hle9 : er_at Ls (xs (nI (i + 1)).toNatClampNeg) (xs (nI (i + 2)).toNatClampNeg) ≤ 3 := by
    unfold er_at
    (repeat' split) <;> decide
  refine lv_iload hx hb dL_law_921 (lv_at hl 1 rfl) ?_
  refine lv_icmp_eq (tgt := 928) hx hb dL_law_923 (by decide) (fun h923 => ?_) (fun h923 => ?_)
  · refine lv_iload hx hb dL_law_928 (lv_at hl 1 rfl) ?_
    refine lv_if_ne (tgt := 945) hx hb dL_law_930 (by decide) (fun h930 => ?_) (fun h930 => ?_)
    · have hb930 := g_ne (a := er_at Ls (xs (nI (i + 1)).toNatClampNeg) (xs (nI (i + 2)).toNatClampNeg)) (b := 0) h930 (by omega) (by omega)
      refine lv_goto (tgt := 1435) hx hb dL_law_945 (by decide) ?_
      obtain ⟨hne, hC1, ho1⟩ := hq1.resolve_left (fun z => hb930 z.1)
      obtain ⟨k9, -, -, -, hmm9⟩ := hq3.resolve_left (fun z => hne z.1)
      have hI9 : g_I9 D σ3 _ := ⟨hC1.off ho3 (by decide), hvC, ⟨_, hmm9⟩, ⟨_, (ho3 31 (by omega)).trans hO1⟩, ⟨_, (ho3 32 (by omega)).trans hOD1⟩⟩
      refine W.widen (k := cells + 12) (n := slots + 108) (by first | exact Nat.le_refl _ | (show cells + 10 ≤ cells + 12; omega)) (by first | exact Nat.le_refl _ | (show slots + 60 ≤ slots + 108; omega)) ?_
      exact kk σ3 _ _ _ _ hI9 hP hS (lv_sub hl [2, 3, 4, 5, 6, 7] rfl)
    · have hb930 := g_eq (a := er_at Ls (xs (nI (i + 1)).toNatClampNeg) (xs (nI (i + 2)).toNatClampNeg)) (b := 0) h930 (by omega) (by omega)
      have he0 : er_at Ls (xs (nI (i + 1)).toNatClampNeg) (xs (nI (i + 2)).toNatClampNeg) = 0 := hb930
      obtain ⟨-, r9, σ2, hok, hoff, hσ1⟩ := hq1.resolve_right (fun z => z.1 he0)
      obtain ⟨-, hok3⟩ := hq3.resolve_right (fun z => by obtain ⟨k9, z1, z2, -⟩ := z; omega)
      obtain ⟨vaw, vaj, x0, x1, x2, x3, x4, x5⟩ := hok
      obtain ⟨vbw, vbj, y0, y1, y2, y3, y4, y5⟩ := hok3
      have hl24 := (hvC vbw y0).2
      have hzz := zs_le (show (Ls vbw).length ≤ 48 by omega)
      have ee : vbw = vaw := g_eq (y1.symm.trans x1) (by omega) (by omega)
      subst ee
      have ee : vbj = vaj := g_eq (y3.symm.trans x3) (by omega) (by omega)
      subst ee
      have hr9 : r9 = r3 := Value.int.inj (Option.some.inj (x4.trans y4.symm))
      have hC1 := x5.up31 (k := 31) (e := .inl (g_cL D, 1, .inr (.inl (vp_updL f8 0 r9.toInt64)))) (by decide)
      rw [← hσ1] at hC1
      have hvC3 := hvC
      refine lv_aload_n hx hb dL_law_933 rfl (lv_at hl 4 rfl) ?_
      refine lv_iconst (v := nI 0) hx hb dL_law_934 (by decide) ?_
      have h31 : σ3 31 = .inl (g_cL D, 1, .inr (.inl (vp_updL f8 0 r9.toInt64))) := (ho3 31 (by omega)).trans (by rw [hσ1]; exact g_ups)
      refine g_laldO hx hb hE hP h31 (v := r9.toInt64) (by simp [vp_updL]) dL_law_935 ?_
      refine lv_iload hx hb dL_law_936 (lv_at hl 0 rfl) ?_
      refine lv_i2l (v := (r3).toInt64) hx hb dL_law_938 rfl ?_
      refine W.lcmp hx hb dL_law_939 ?_
      refine g_top (y := nI 0) (by rw [hr9]; exact lg_self) ?_
      refine lv_if_eq (tgt := 945) hx hb dL_law_940 (by decide) (fun h940 => ?_) (fun h940 => ?_)
      · refine lv_goto (tgt := 1435) hx hb dL_law_945 (by decide) ?_
        have hI9 : g_I9 D σ3 _ := ⟨hC1.off ho3 (by decide), hvC3, ⟨_, y5⟩, ⟨_, (ho3 31 (by omega)).trans hO1⟩, ⟨_, (ho3 32 (by omega)).trans hOD1⟩⟩
        refine W.widen (k := cells + 12) (n := slots + 108) (by first | exact Nat.le_refl _ | (show cells + 10 ≤ cells + 12; omega)) (by first | exact Nat.le_refl _ | (show slots + 60 ≤ slots + 108; omega)) ?_
        exact kk σ3 _ _ _ _ hI9 hP hS (lv_sub hl [2, 3, 4, 5, 6, 7] rfl)
      · exact absurd rfl h940
  · exact absurd rfl h923

set_option maxHeartbeats 4000000 in
set_option maxRecDepth 100000 in
theorem lc_range {p : Program} {l : Launch} {e : Env} {s : State} {m : MethodId} {args : Array Value} {below : List Frame} {meth : Method} {c : Code} {H : Heap} {locs : List Loc} {cells slots : Nat} {Q : State → Prop} (hst : l.stackTraces = false) {D : va_G} (hAD : g_AD D) {σ : Nat → va_E} {Ls : Nat → g_L} (hI : g_I9 D σ Ls) (hx : p.tables.exec = Jvm.exec) (hb : c.code = cL_law) (hml : c.maxLocals = 9) (hown : s.vm.findClass RL = some m.cls) (hts : ∀ w ∈ g_WA, w.before args s = true) (hE : g_EV D s) (hZ : g_EZ (g_A D s.heap.size) s s.heap) {b L : Nat} {xs : Nat → Int32} (hX : va_X b L xs s s.heap) (hbl : b < s.heap.size) (hbA : ¬ g_A D s.heap.size b) {i : Nat} (hi : i + 5 ≤ L) (hL : L ≤ 2560) (hP : va_P D vwCl (g_W D σ) H) (hS : va_S (g_A D s.heap.size) s.heap H locs) {ls : Array Slot} (hl : lv_has ls 9 [(1, .ref (ad_ D 0)), (2, .ref (ad_ D 20)), (3, .ref (ad_ D 31)), (4, .ref (ad_ D 32)), (0, .ref b), (5, .int (nI i))]) (hcs : cells + 12 ≤ 600000) (hsl : slots + 108 ≤ 6500000)
    (kk : ∀ (σ9 : Nat → va_E) (Ls9 : Nat → g_L) (H : Heap) (locs : List Loc) (ls : Array Slot), g_I9 D σ9 Ls9 → va_P D vwCl (g_W D σ9) H → va_S (g_A D s.heap.size) s.heap H locs → lv_has ls 9 [(1, .ref (ad_ D 0)), (2, .ref (ad_ D 20)), (3, .ref (ad_ D 31)), (4, .ref (ad_ D 32)), (0, .ref b), (5, .int (nI i))] → W p l e room_1 s m args below meth c H locs (cells + 12) (slots + 108) Q (F0 m 1435 ls [])) : W p l e room_1 s m args below meth c H locs cells slots Q (F0 m 948 ls []) := by
  obtain ⟨hC, hvC, ⟨th, rs, sg, S, N, Z, R9, T9, hM, hmr⟩, ⟨f8, hO⟩, ⟨fD, hOD⟩⟩ := id hI
  refine lv_aload_n hx hb dL_law_948 rfl (lv_at hl 0 rfl) ?_
  refine lv_aload_n hx hb dL_law_949 rfl (lv_at hl 4 rfl) ?_
  refine lv_iload hx hb dL_law_950 (lv_at hl 5 rfl) ?_
  refine lv_iconst (v := nI 1) hx hb dL_law_952 (by decide) ?_
  refine lv_iadd hx hb dL_law_953 ?_
  refine g_top (y := nI (i + 1)) (nI_add i 1) ?_
  refine va_sld hx hb hX hbl hbA hS (i := nI (i + 1)) (vp_in_nI (by omega) (by omega)) dL_law_954 ?_
  refine lv_aload_n hx hb dL_law_955 rfl (lv_at hl 4 rfl) ?_
  refine lv_iload hx hb dL_law_956 (lv_at hl 5 rfl) ?_
  refine lv_iconst (v := nI 2) hx hb dL_law_958 (by decide) ?_
  refine lv_iadd hx hb dL_law_959 ?_
  refine g_top (y := nI (i + 2)) (nI_add i 2) ?_
  refine va_sld hx hb hX hbl hbA hS (i := nI (i + 2)) (vp_in_nI (by omega) (by omega)) dL_law_960 ?_
  refine lv_aload_n hx hb dL_law_961 rfl (lv_at hl 4 rfl) ?_
  refine lv_iload hx hb dL_law_962 (lv_at hl 5 rfl) ?_
  refine lv_iconst (v := nI 3) hx hb dL_law_964 (by decide) ?_
  refine lv_iadd hx hb dL_law_965 ?_
  refine g_top (y := nI (i + 3)) (nI_add i 3) ?_
  refine va_sld hx hb hX hbl hbA hS (i := nI (i + 3)) (vp_in_nI (by omega) (by omega)) dL_law_966 ?_
  refine lv_aload_n hx hb dL_law_967 rfl (lv_at hl 4 rfl) ?_
  refine lv_iload hx hb dL_law_968 (lv_at hl 5 rfl) ?_
  refine lv_iconst (v := nI 4) hx hb dL_law_970 (by decide) ?_
  refine lv_iadd hx hb dL_law_971 ?_
  refine g_top (y := nI (i + 4)) (nI_add i 4) ?_
  refine va_sld hx hb hX hbl hbA hS (i := nI (i + 4)) (vp_in_nI (by omega) (by omega)) dL_law_972 ?_
  refine lv_aload_n hx hb dL_law_973 rfl (lv_at hl 2 rfl) ?_
  refine g_callSH (y := yL_range) (n := 6) (As := [.ref (ad_ D 0), .int (xs (nI (i + 1)).toNatClampNeg), .int (xs (nI (i + 2)).toNatClampNeg), .int (xs (nI (i + 3)).toNatClampNeg), .int (xs (nI (i + 4)).toNatClampNeg), .ref (ad_ D 31)]) (rest := []) hx hb hml hown hts hE hZ hP hS hl.1 (m_L_range l hst D hAD σ Ls (xs (nI (i + 1)).toNatClampNeg) (xs (nI (i + 2)).toNatClampNeg) (xs (nI (i + 3)).toNatClampNeg) (xs (nI (i + 4)).toNatClampNeg) hC hvC f8 hO) k_H_range rfl rfl ⟨Nat.le_of_ble_eq_true rfl, Nat.le_of_ble_eq_true rfl⟩ (Nat.le_of_ble_eq_true rfl) ⟨by show cells + 10 ≤ room_1.cells; exact g_rmC (by omega), by show slots + 60 ≤ room_1.slots; exact g_rmS (by omega)⟩ dL_law_974 (fun v σ1 H locs hq hP hS => ?_)
  obtain ⟨rfl, hq1⟩ := hq
  refine W.eq (g2 := F0 m 977 ls [.int (nI (er_range (xs (nI (i + 1)).toNatClampNeg) (xs (nI (i + 2)).toNatClampNeg) (xs (nI (i + 3)).toNatClampNeg) (xs (nI (i + 4)).toNatClampNeg)))]) rfl ?_
  obtain ⟨hk20, ⟨f9, hO1⟩, hOD1⟩ := wl_keep hO hq1
  rw [hOD] at hOD1
  have hM1 := hM.keep hk20
  refine lv_istore (lv' := [(6, .int (nI (er_range (xs (nI (i + 1)).toNatClampNeg) (xs (nI (i + 2)).toNatClampNeg) (xs (nI (i + 3)).toNatClampNeg) (xs (nI (i + 4)).toNatClampNeg)))), (1, .ref (ad_ D 0)), (2, .ref (ad_ D 20)), (3, .ref (ad_ D 31)), (4, .ref (ad_ D 32)), (0, .ref b), (5, .int (nI i))]) hx hb dL_law_977 hl (by decide) rfl (fun ls hl => ?_)
  refine lv_aload_n hx hb dL_law_979 rfl (lv_at hl 2 rfl) ?_
  refine lv_aload_n hx hb dL_law_980 rfl (lv_at hl 5 rfl) ?_
  refine lv_iload hx hb dL_law_981 (lv_at hl 6 rfl) ?_
  refine lv_iconst (v := nI 1) hx hb dL_law_983 (by decide) ?_
  refine lv_iadd hx hb dL_law_984 ?_
  refine g_top (y := nI (i + 1)) (nI_add i 1) ?_
  refine va_sld hx hb hX hbl hbA hS (i := nI (i + 1)) (vp_in_nI (by omega) (by omega)) dL_law_985 ?_
  refine lv_aload_n hx hb dL_law_986 rfl (lv_at hl 5 rfl) ?_
  refine lv_iload hx hb dL_law_987 (lv_at hl 6 rfl) ?_
  refine lv_iconst (v := nI 2) hx hb dL_law_989 (by decide) ?_
  refine lv_iadd hx hb dL_law_990 ?_
  refine g_top (y := nI (i + 2)) (nI_add i 2) ?_
  refine va_sld hx hb hX hbl hbA hS (i := nI (i + 2)) (vp_in_nI (by omega) (by omega)) dL_law_991 ?_
  refine lv_aload_n hx hb dL_law_992 rfl (lv_at hl 5 rfl) ?_
  refine lv_iload hx hb dL_law_993 (lv_at hl 6 rfl) ?_
  refine lv_iconst (v := nI 3) hx hb dL_law_995 (by decide) ?_
  refine lv_iadd hx hb dL_law_996 ?_
  refine g_top (y := nI (i + 3)) (nI_add i 3) ?_
  refine va_sld hx hb hX hbl hbA hS (i := nI (i + 3)) (vp_in_nI (by omega) (by omega)) dL_law_997 ?_
  refine lv_aload_n hx hb dL_law_998 rfl (lv_at hl 5 rfl) ?_
  refine lv_iload hx hb dL_law_999 (lv_at hl 6 rfl) ?_
  refine lv_iconst (v := nI 4) hx hb dL_law_1001 (by decide) ?_
  refine lv_iadd hx hb dL_law_1002 ?_
  refine g_top (y := nI (i + 4)) (nI_add i 4) ?_
  refine va_sld hx hb hX hbl hbA hS (i := nI (i + 4)) (vp_in_nI (by omega) (by omega)) dL_law_1003 ?_
  refine g_callV0 (y := yX3_range) (n := 4) (As := [.int (xs (nI (i + 1)).toNatClampNeg), .int (xs (nI (i + 2)).toNatClampNeg), .int (xs (nI (i + 3)).toNatClampNeg), .int (xs (nI (i + 4)).toNatClampNeg)]) (rest := []) hx hb hml hown hts hE hZ hP hS hl.1 (m_X3_range l D hAD σ1 th rs sg S N Z R9 T9 hM1 Ls (xs (nI (i + 1)).toNatClampNeg) (xs (nI (i + 2)).toNatClampNeg) (xs (nI (i + 3)).toNatClampNeg) (xs (nI (i + 4)).toNatClampNeg) hmr hvC) k_L_124 (ci := 3) (by decide) hM1.1 rfl rfl rfl rfl rfl ⟨rfl, rfl⟩ ⟨Nat.le_of_ble_eq_true rfl, Nat.le_of_ble_eq_true rfl⟩ (Nat.le_of_ble_eq_true rfl) ⟨by show cells + 10 ≤ room_1.cells; exact g_rmC (by omega), by show slots + 60 ≤ room_1.slots; exact g_rmS (by omega)⟩ dL_law_1004 (fun v3 σ3 H locs hq hP hS => ?_)
  obtain ⟨hq3, ho3⟩ := hq
  obtain ⟨r3, rfl⟩ : ∃ r : Int32, v3 = some (.int r) := by
    rcases hq3 with ⟨-, ⟨_, _, _, _, _, _, _, _, _, hv9, _⟩⟩ | ⟨_, _, _, hv9, _⟩
    · exact ⟨_, hv9⟩
    · exact ⟨_, hv9⟩
  refine W.eq (g2 := F0 m 1007 ls [.int r3]) rfl ?_
  obtain ⟨Ls3, hMM3⟩ : ∃ Ls3, g_MM D σ3 (nI (er_range (xs (nI (i + 1)).toNatClampNeg) (xs (nI (i + 2)).toNatClampNeg) (xs (nI (i + 3)).toNatClampNeg) (xs (nI (i + 4)).toNatClampNeg))) Ls3 := by
    rcases hq3 with ⟨he9, ⟨_, _, _, _, _, _, _, _, _, _, hmm9⟩⟩ | ⟨k9, he9, -, -, hmm9⟩
    · exact ⟨_, by rw [he9]; exact hmm9⟩
    · exact ⟨_, by rw [he9]; exact hmm9⟩
  obtain ⟨rs3, sg3, S3, N3, Z3, R3, T3, hM3, hmr3⟩ := id hMM3
  refine lv_istore (lv' := [(7, .int r3), (6, .int (nI (er_range (xs (nI (i + 1)).toNatClampNeg) (xs (nI (i + 2)).toNatClampNeg) (xs (nI (i + 3)).toNatClampNeg) (xs (nI (i + 4)).toNatClampNeg)))), (1, .ref (ad_ D 0)), (2, .ref (ad_ D 20)), (3, .ref (ad_ D 31)), (4, .ref (ad_ D 32)), (0, .ref b), (5, .int (nI i))]) hx hb dL_law_1007 hl (by decide) rfl (fun ls hl => ?_)
  refine lv_aload_n hx hb dL_law_1009 rfl (lv_at hl 3 rfl) ?_
  refine g_callV0 (y := yX3_thrown) (n := 0) (As := []) (rest := []) hx hb hml hown hts hE hZ hP hS hl.1 (m_X3_thrown l D hAD σ3 (nI (er_range (xs (nI (i + 1)).toNatClampNeg) (xs (nI (i + 2)).toNatClampNeg) (xs (nI (i + 3)).toNatClampNeg) (xs (nI (i + 4)).toNatClampNeg))) rs3 sg3 S3 N3 Z3 R3 T3 hM3) k_L_85 (ci := 3) (by decide) hM3.1 rfl rfl rfl rfl rfl ⟨rfl, rfl⟩ ⟨Nat.le_of_ble_eq_true rfl, Nat.le_of_ble_eq_true rfl⟩ (Nat.le_of_ble_eq_true rfl) ⟨by show cells + 10 ≤ room_1.cells; exact g_rmC (by omega), by show slots + 60 ≤ room_1.slots; exact g_rmS (by omega)⟩ dL_law_1010 (fun v4 σ4 H locs hq hP hS => ?_)
  obtain ⟨rfl, rfl⟩ := hq
  refine W.eq (g2 := F0 m 1013 ls [.int (nI (er_range (xs (nI (i + 1)).toNatClampNeg) (xs (nI (i + 2)).toNatClampNeg) (xs (nI (i + 3)).toNatClampNeg) (xs (nI (i + 4)).toNatClampNeg)))]) rfl ?_
  have hle9 : er_range (xs (nI (i + 1)).toNatClampNeg) (xs (nI (i + 2)).toNatClampNeg) (xs (nI (i + 3)).toNatClampNeg) (xs (nI (i + 4)).toNatClampNeg) ≤ 3 := by
    unfold er_range
    (repeat' split) <;> decide
  refine lv_iload hx hb dL_law_1013 (lv_at hl 1 rfl) ?_
  refine lv_icmp_eq (tgt := 1020) hx hb dL_law_1015 (by decide) (fun h1015 => ?_) (fun h1015 => ?_)
  · refine lv_iload hx hb dL_law_1020 (lv_at hl 1 rfl) ?_
    refine lv_if_ne (tgt := 1037) hx hb dL_law_1022 (by decide) (fun h1022 => ?_) (fun h1022 => ?_)
    · have hb1022 := g_ne (a := er_range (xs (nI (i + 1)).toNatClampNeg) (xs (nI (i + 2)).toNatClampNeg) (xs (nI (i + 3)).toNatClampNeg) (xs (nI (i + 4)).toNatClampNeg)) (b := 0) h1022 (by omega) (by omega)
      refine lv_goto (tgt := 1435) hx hb dL_law_1037 (by decide) ?_
      obtain ⟨hne, hC1, ho1⟩ := hq1.resolve_left (fun z => hb1022 z.1)
      obtain ⟨k9, -, -, -, hmm9⟩ := hq3.resolve_left (fun z => hne z.1)
      have hI9 : g_I9 D σ3 _ := ⟨hC1.off ho3 (by decide), hvC, ⟨_, hmm9⟩, ⟨_, (ho3 31 (by omega)).trans hO1⟩, ⟨_, (ho3 32 (by omega)).trans hOD1⟩⟩
      refine W.widen (k := cells + 12) (n := slots + 108) (by first | exact Nat.le_refl _ | (show cells + 10 ≤ cells + 12; omega)) (by first | exact Nat.le_refl _ | (show slots + 60 ≤ slots + 108; omega)) ?_
      exact kk σ3 _ _ _ _ hI9 hP hS (lv_sub hl [2, 3, 4, 5, 6, 7] rfl)
    · have hb1022 := g_eq (a := er_range (xs (nI (i + 1)).toNatClampNeg) (xs (nI (i + 2)).toNatClampNeg) (xs (nI (i + 3)).toNatClampNeg) (xs (nI (i + 4)).toNatClampNeg)) (b := 0) h1022 (by omega) (by omega)
      have he0 : er_range (xs (nI (i + 1)).toNatClampNeg) (xs (nI (i + 2)).toNatClampNeg) (xs (nI (i + 3)).toNatClampNeg) (xs (nI (i + 4)).toNatClampNeg) = 0 := hb1022
      obtain ⟨-, r9, σ2, hok, hoff, hσ1⟩ := hq1.resolve_right (fun z => z.1 he0)
      obtain ⟨-, hok3⟩ := hq3.resolve_right (fun z => by obtain ⟨k9, z1, z2, -⟩ := z; omega)
      obtain ⟨vaw, vat, x0, x1, x2, x3, x4, x5, x6, x7, x8⟩ := hok
      obtain ⟨vbw, vbt, y0, y1, y2, y3, y4, y5, y6, y7, y8⟩ := hok3
      have hl24 := (hvC vbw y0).2
      have hzz := zs_le (show (Ls vbw).length ≤ 48 by omega)
      have ee : vbw = vaw := g_eq (y1.symm.trans x1) (by omega) (by omega)
      subst ee
      have ee : vbt = vat := g_eq (y3.symm.trans x3) (by omega) (by omega)
      subst ee
      have hr9 : r9 = r3 := Value.int.inj (Option.some.inj (x7.trans y7.symm))
      have hC1 := x8.up31 (k := 31) (e := .inl (g_cL D, 1, .inr (.inl (vp_updL f8 0 r9.toInt64)))) (by decide)
      rw [← hσ1] at hC1
      have hvC3 := hvC
      refine lv_aload_n hx hb dL_law_1025 rfl (lv_at hl 4 rfl) ?_
      refine lv_iconst (v := nI 0) hx hb dL_law_1026 (by decide) ?_
      have h31 : σ3 31 = .inl (g_cL D, 1, .inr (.inl (vp_updL f8 0 r9.toInt64))) := (ho3 31 (by omega)).trans (by rw [hσ1]; exact g_ups)
      refine g_laldO hx hb hE hP h31 (v := r9.toInt64) (by simp [vp_updL]) dL_law_1027 ?_
      refine lv_iload hx hb dL_law_1028 (lv_at hl 0 rfl) ?_
      refine lv_i2l (v := (r3).toInt64) hx hb dL_law_1030 rfl ?_
      refine W.lcmp hx hb dL_law_1031 ?_
      refine g_top (y := nI 0) (by rw [hr9]; exact lg_self) ?_
      refine lv_if_eq (tgt := 1037) hx hb dL_law_1032 (by decide) (fun h1032 => ?_) (fun h1032 => ?_)
      · refine lv_goto (tgt := 1435) hx hb dL_law_1037 (by decide) ?_
        have hI9 : g_I9 D σ3 _ := ⟨hC1.off ho3 (by decide), hvC3, ⟨_, y8⟩, ⟨_, (ho3 31 (by omega)).trans hO1⟩, ⟨_, (ho3 32 (by omega)).trans hOD1⟩⟩
        refine W.widen (k := cells + 12) (n := slots + 108) (by first | exact Nat.le_refl _ | (show cells + 10 ≤ cells + 12; omega)) (by first | exact Nat.le_refl _ | (show slots + 60 ≤ slots + 108; omega)) ?_
        exact kk σ3 _ _ _ _ hI9 hP hS (lv_sub hl [2, 3, 4, 5, 6, 7] rfl)
      · exact absurd rfl h1032
  · exact absurd rfl h1015

set_option maxHeartbeats 4000000 in
set_option maxRecDepth 100000 in
theorem lc_near {p : Program} {l : Launch} {e : Env} {s : State} {m : MethodId} {args : Array Value} {below : List Frame} {meth : Method} {c : Code} {H : Heap} {locs : List Loc} {cells slots : Nat} {Q : State → Prop} (hst : l.stackTraces = false) {D : va_G} (hAD : g_AD D) {σ : Nat → va_E} {Ls : Nat → g_L} (hI : g_I9 D σ Ls) (hx : p.tables.exec = Jvm.exec) (hb : c.code = cL_law) (hml : c.maxLocals = 9) (hown : s.vm.findClass RL = some m.cls) (hts : ∀ w ∈ g_WA, w.before args s = true) (hE : g_EV D s) (hZ : g_EZ (g_A D s.heap.size) s s.heap) {b L : Nat} {xs : Nat → Int32} (hX : va_X b L xs s s.heap) (hbl : b < s.heap.size) (hbA : ¬ g_A D s.heap.size b) {i : Nat} (hi : i + 5 ≤ L) (hL : L ≤ 2560) (hP : va_P D vwCl (g_W D σ) H) (hS : va_S (g_A D s.heap.size) s.heap H locs) {ls : Array Slot} (hl : lv_has ls 9 [(1, .ref (ad_ D 0)), (2, .ref (ad_ D 20)), (3, .ref (ad_ D 31)), (4, .ref (ad_ D 32)), (0, .ref b), (5, .int (nI i))]) (hcs : cells + 12 ≤ 600000) (hsl : slots + 108 ≤ 6500000)
    (kk : ∀ (σ9 : Nat → va_E) (Ls9 : Nat → g_L) (H : Heap) (locs : List Loc) (ls : Array Slot), g_I9 D σ9 Ls9 → va_P D vwCl (g_W D σ9) H → va_S (g_A D s.heap.size) s.heap H locs → lv_has ls 9 [(1, .ref (ad_ D 0)), (2, .ref (ad_ D 20)), (3, .ref (ad_ D 31)), (4, .ref (ad_ D 32)), (0, .ref b), (5, .int (nI i))] → W p l e room_1 s m args below meth c H locs (cells + 12) (slots + 108) Q (F0 m 1435 ls [])) : W p l e room_1 s m args below meth c H locs cells slots Q (F0 m 1040 ls []) := by
  obtain ⟨hC, hvC, ⟨th, rs, sg, S, N, Z, R9, T9, hM, hmr⟩, ⟨f8, hO⟩, ⟨fD, hOD⟩⟩ := id hI
  refine lv_aload_n hx hb dL_law_1040 rfl (lv_at hl 0 rfl) ?_
  refine lv_aload_n hx hb dL_law_1041 rfl (lv_at hl 4 rfl) ?_
  refine lv_iload hx hb dL_law_1042 (lv_at hl 5 rfl) ?_
  refine lv_iconst (v := nI 1) hx hb dL_law_1044 (by decide) ?_
  refine lv_iadd hx hb dL_law_1045 ?_
  refine g_top (y := nI (i + 1)) (nI_add i 1) ?_
  refine va_sld hx hb hX hbl hbA hS (i := nI (i + 1)) (vp_in_nI (by omega) (by omega)) dL_law_1046 ?_
  refine lv_aload_n hx hb dL_law_1047 rfl (lv_at hl 4 rfl) ?_
  refine lv_iload hx hb dL_law_1048 (lv_at hl 5 rfl) ?_
  refine lv_iconst (v := nI 2) hx hb dL_law_1050 (by decide) ?_
  refine lv_iadd hx hb dL_law_1051 ?_
  refine g_top (y := nI (i + 2)) (nI_add i 2) ?_
  refine va_sld hx hb hX hbl hbA hS (i := nI (i + 2)) (vp_in_nI (by omega) (by omega)) dL_law_1052 ?_
  refine lv_aload_n hx hb dL_law_1053 rfl (lv_at hl 2 rfl) ?_
  refine g_callSH (y := yL_near) (n := 4) (As := [.ref (ad_ D 0), .int (xs (nI (i + 1)).toNatClampNeg), .int (xs (nI (i + 2)).toNatClampNeg), .ref (ad_ D 31)]) (rest := []) hx hb hml hown hts hE hZ hP hS hl.1 (m_L_near l hst D hAD σ Ls (xs (nI (i + 1)).toNatClampNeg) (xs (nI (i + 2)).toNatClampNeg) hC hvC f8 hO) k_H_near rfl rfl ⟨Nat.le_of_ble_eq_true rfl, Nat.le_of_ble_eq_true rfl⟩ (Nat.le_of_ble_eq_true rfl) ⟨by show cells + 10 ≤ room_1.cells; exact g_rmC (by omega), by show slots + 60 ≤ room_1.slots; exact g_rmS (by omega)⟩ dL_law_1054 (fun v σ1 H locs hq hP hS => ?_)
  obtain ⟨rfl, hq1⟩ := hq
  refine W.eq (g2 := F0 m 1057 ls [.int (nI (er_miles (xs (nI (i + 1)).toNatClampNeg) (xs (nI (i + 2)).toNatClampNeg)))]) rfl ?_
  obtain ⟨hk20, ⟨f9, hO1⟩, hOD1⟩ := wl_keep hO hq1
  rw [hOD] at hOD1
  have hM1 := hM.keep hk20
  refine lv_istore (lv' := [(6, .int (nI (er_miles (xs (nI (i + 1)).toNatClampNeg) (xs (nI (i + 2)).toNatClampNeg)))), (1, .ref (ad_ D 0)), (2, .ref (ad_ D 20)), (3, .ref (ad_ D 31)), (4, .ref (ad_ D 32)), (0, .ref b), (5, .int (nI i))]) hx hb dL_law_1057 hl (by decide) rfl (fun ls hl => ?_)
  refine lv_aload_n hx hb dL_law_1059 rfl (lv_at hl 2 rfl) ?_
  refine lv_aload_n hx hb dL_law_1060 rfl (lv_at hl 5 rfl) ?_
  refine lv_iload hx hb dL_law_1061 (lv_at hl 6 rfl) ?_
  refine lv_iconst (v := nI 1) hx hb dL_law_1063 (by decide) ?_
  refine lv_iadd hx hb dL_law_1064 ?_
  refine g_top (y := nI (i + 1)) (nI_add i 1) ?_
  refine va_sld hx hb hX hbl hbA hS (i := nI (i + 1)) (vp_in_nI (by omega) (by omega)) dL_law_1065 ?_
  refine lv_aload_n hx hb dL_law_1066 rfl (lv_at hl 5 rfl) ?_
  refine lv_iload hx hb dL_law_1067 (lv_at hl 6 rfl) ?_
  refine lv_iconst (v := nI 2) hx hb dL_law_1069 (by decide) ?_
  refine lv_iadd hx hb dL_law_1070 ?_
  refine g_top (y := nI (i + 2)) (nI_add i 2) ?_
  refine va_sld hx hb hX hbl hbA hS (i := nI (i + 2)) (vp_in_nI (by omega) (by omega)) dL_law_1071 ?_
  refine g_callV0 (y := yX3_near) (n := 2) (As := [.int (xs (nI (i + 1)).toNatClampNeg), .int (xs (nI (i + 2)).toNatClampNeg)]) (rest := []) hx hb hml hown hts hE hZ hP hS hl.1 (m_X3_near l D hAD σ1 th rs sg S N Z R9 T9 hM1 Ls (xs (nI (i + 1)).toNatClampNeg) (xs (nI (i + 2)).toNatClampNeg) hmr hvC) k_L_127 (ci := 3) (by decide) hM1.1 rfl rfl rfl rfl rfl ⟨rfl, rfl⟩ ⟨Nat.le_of_ble_eq_true rfl, Nat.le_of_ble_eq_true rfl⟩ (Nat.le_of_ble_eq_true rfl) ⟨by show cells + 10 ≤ room_1.cells; exact g_rmC (by omega), by show slots + 60 ≤ room_1.slots; exact g_rmS (by omega)⟩ dL_law_1072 (fun v3 σ3 H locs hq hP hS => ?_)
  obtain ⟨hq3, ho3⟩ := hq
  obtain ⟨r3, rfl⟩ : ∃ r : Int32, v3 = some (.int r) := by
    rcases hq3 with ⟨-, ⟨_, _, _, hv9, _⟩⟩ | ⟨_, _, _, hv9, _⟩
    · exact ⟨_, hv9⟩
    · exact ⟨_, hv9⟩
  refine W.eq (g2 := F0 m 1075 ls [.int r3]) rfl ?_
  obtain ⟨Ls3, hMM3⟩ : ∃ Ls3, g_MM D σ3 (nI (er_miles (xs (nI (i + 1)).toNatClampNeg) (xs (nI (i + 2)).toNatClampNeg))) Ls3 := by
    rcases hq3 with ⟨he9, ⟨_, _, _, _, hmm9⟩⟩ | ⟨k9, he9, -, -, hmm9⟩
    · exact ⟨_, by rw [he9]; exact hmm9⟩
    · exact ⟨_, by rw [he9]; exact hmm9⟩
  obtain ⟨rs3, sg3, S3, N3, Z3, R3, T3, hM3, hmr3⟩ := id hMM3
  refine lv_istore (lv' := [(7, .int r3), (6, .int (nI (er_miles (xs (nI (i + 1)).toNatClampNeg) (xs (nI (i + 2)).toNatClampNeg)))), (1, .ref (ad_ D 0)), (2, .ref (ad_ D 20)), (3, .ref (ad_ D 31)), (4, .ref (ad_ D 32)), (0, .ref b), (5, .int (nI i))]) hx hb dL_law_1075 hl (by decide) rfl (fun ls hl => ?_)
  refine lv_aload_n hx hb dL_law_1077 rfl (lv_at hl 3 rfl) ?_
  refine g_callV0 (y := yX3_thrown) (n := 0) (As := []) (rest := []) hx hb hml hown hts hE hZ hP hS hl.1 (m_X3_thrown l D hAD σ3 (nI (er_miles (xs (nI (i + 1)).toNatClampNeg) (xs (nI (i + 2)).toNatClampNeg))) rs3 sg3 S3 N3 Z3 R3 T3 hM3) k_L_85 (ci := 3) (by decide) hM3.1 rfl rfl rfl rfl rfl ⟨rfl, rfl⟩ ⟨Nat.le_of_ble_eq_true rfl, Nat.le_of_ble_eq_true rfl⟩ (Nat.le_of_ble_eq_true rfl) ⟨by show cells + 10 ≤ room_1.cells; exact g_rmC (by omega), by show slots + 60 ≤ room_1.slots; exact g_rmS (by omega)⟩ dL_law_1078 (fun v4 σ4 H locs hq hP hS => ?_)
  obtain ⟨rfl, rfl⟩ := hq
  refine W.eq (g2 := F0 m 1081 ls [.int (nI (er_miles (xs (nI (i + 1)).toNatClampNeg) (xs (nI (i + 2)).toNatClampNeg)))]) rfl ?_
  have hle9 : er_miles (xs (nI (i + 1)).toNatClampNeg) (xs (nI (i + 2)).toNatClampNeg) ≤ 3 := by
    unfold er_miles
    (repeat' split) <;> decide
  refine lv_iload hx hb dL_law_1081 (lv_at hl 1 rfl) ?_
  refine lv_icmp_eq (tgt := 1088) hx hb dL_law_1083 (by decide) (fun h1083 => ?_) (fun h1083 => ?_)
  · refine lv_iload hx hb dL_law_1088 (lv_at hl 1 rfl) ?_
    refine lv_if_ne (tgt := 1105) hx hb dL_law_1090 (by decide) (fun h1090 => ?_) (fun h1090 => ?_)
    · have hb1090 := g_ne (a := er_miles (xs (nI (i + 1)).toNatClampNeg) (xs (nI (i + 2)).toNatClampNeg)) (b := 0) h1090 (by omega) (by omega)
      refine lv_goto (tgt := 1435) hx hb dL_law_1105 (by decide) ?_
      obtain ⟨hne, hC1, ho1⟩ := hq1.resolve_left (fun z => hb1090 z.1)
      obtain ⟨k9, -, -, -, hmm9⟩ := hq3.resolve_left (fun z => hne z.1)
      have hI9 : g_I9 D σ3 _ := ⟨hC1.off ho3 (by decide), hvC, ⟨_, hmm9⟩, ⟨_, (ho3 31 (by omega)).trans hO1⟩, ⟨_, (ho3 32 (by omega)).trans hOD1⟩⟩
      refine W.widen (k := cells + 12) (n := slots + 108) (by first | exact Nat.le_refl _ | (show cells + 10 ≤ cells + 12; omega)) (by first | exact Nat.le_refl _ | (show slots + 60 ≤ slots + 108; omega)) ?_
      exact kk σ3 _ _ _ _ hI9 hP hS (lv_sub hl [2, 3, 4, 5, 6, 7] rfl)
    · have hb1090 := g_eq (a := er_miles (xs (nI (i + 1)).toNatClampNeg) (xs (nI (i + 2)).toNatClampNeg)) (b := 0) h1090 (by omega) (by omega)
      have he0 : er_miles (xs (nI (i + 1)).toNatClampNeg) (xs (nI (i + 2)).toNatClampNeg) = 0 := hb1090
      obtain ⟨-, r9, σ2, hok, hoff, hσ1⟩ := hq1.resolve_right (fun z => z.1 he0)
      obtain ⟨-, hok3⟩ := hq3.resolve_right (fun z => by obtain ⟨k9, z1, z2, -⟩ := z; omega)
      obtain ⟨vaw, x0, x1, x2, x3⟩ := hok
      obtain ⟨vbw, y0, y1, y2, y3⟩ := hok3
      have hl24 := (hvC vbw y0).2
      have hzz := zs_le (show (Ls vbw).length ≤ 48 by omega)
      have ee : vbw = vaw := g_eq (y1.symm.trans x1) (by omega) (by omega)
      subst ee
      have hr9 : r9 = r3 := Value.int.inj (Option.some.inj (x2.trans y2.symm))
      have hC1 := x3.up31 (k := 31) (e := .inl (g_cL D, 1, .inr (.inl (vp_updL f8 0 r9.toInt64)))) (by decide)
      rw [← hσ1] at hC1
      have hvC3 := hvC
      refine lv_aload_n hx hb dL_law_1093 rfl (lv_at hl 4 rfl) ?_
      refine lv_iconst (v := nI 0) hx hb dL_law_1094 (by decide) ?_
      have h31 : σ3 31 = .inl (g_cL D, 1, .inr (.inl (vp_updL f8 0 r9.toInt64))) := (ho3 31 (by omega)).trans (by rw [hσ1]; exact g_ups)
      refine g_laldO hx hb hE hP h31 (v := r9.toInt64) (by simp [vp_updL]) dL_law_1095 ?_
      refine lv_iload hx hb dL_law_1096 (lv_at hl 0 rfl) ?_
      refine lv_i2l (v := (r3).toInt64) hx hb dL_law_1098 rfl ?_
      refine W.lcmp hx hb dL_law_1099 ?_
      refine g_top (y := nI 0) (by rw [hr9]; exact lg_self) ?_
      refine lv_if_eq (tgt := 1105) hx hb dL_law_1100 (by decide) (fun h1100 => ?_) (fun h1100 => ?_)
      · refine lv_goto (tgt := 1435) hx hb dL_law_1105 (by decide) ?_
        have hI9 : g_I9 D σ3 _ := ⟨hC1.off ho3 (by decide), hvC3, ⟨_, y3⟩, ⟨_, (ho3 31 (by omega)).trans hO1⟩, ⟨_, (ho3 32 (by omega)).trans hOD1⟩⟩
        refine W.widen (k := cells + 12) (n := slots + 108) (by first | exact Nat.le_refl _ | (show cells + 10 ≤ cells + 12; omega)) (by first | exact Nat.le_refl _ | (show slots + 60 ≤ slots + 108; omega)) ?_
        exact kk σ3 _ _ _ _ hI9 hP hS (lv_sub hl [2, 3, 4, 5, 6, 7] rfl)
      · exact absurd rfl h1100
  · exact absurd rfl h1083

set_option maxHeartbeats 4000000 in
set_option maxRecDepth 100000 in
theorem lc_far {p : Program} {l : Launch} {e : Env} {s : State} {m : MethodId} {args : Array Value} {below : List Frame} {meth : Method} {c : Code} {H : Heap} {locs : List Loc} {cells slots : Nat} {Q : State → Prop} (hst : l.stackTraces = false) {D : va_G} (hAD : g_AD D) {σ : Nat → va_E} {Ls : Nat → g_L} (hI : g_I9 D σ Ls) (hx : p.tables.exec = Jvm.exec) (hb : c.code = cL_law) (hml : c.maxLocals = 9) (hown : s.vm.findClass RL = some m.cls) (hts : ∀ w ∈ g_WA, w.before args s = true) (hE : g_EV D s) (hZ : g_EZ (g_A D s.heap.size) s s.heap) {b L : Nat} {xs : Nat → Int32} (hX : va_X b L xs s s.heap) (hbl : b < s.heap.size) (hbA : ¬ g_A D s.heap.size b) {i : Nat} (hi : i + 5 ≤ L) (hL : L ≤ 2560) (hP : va_P D vwCl (g_W D σ) H) (hS : va_S (g_A D s.heap.size) s.heap H locs) {ls : Array Slot} (hl : lv_has ls 9 [(1, .ref (ad_ D 0)), (2, .ref (ad_ D 20)), (3, .ref (ad_ D 31)), (4, .ref (ad_ D 32)), (0, .ref b), (5, .int (nI i))]) (hcs : cells + 12 ≤ 600000) (hsl : slots + 108 ≤ 6500000)
    (kk : ∀ (σ9 : Nat → va_E) (Ls9 : Nat → g_L) (H : Heap) (locs : List Loc) (ls : Array Slot), g_I9 D σ9 Ls9 → va_P D vwCl (g_W D σ9) H → va_S (g_A D s.heap.size) s.heap H locs → lv_has ls 9 [(1, .ref (ad_ D 0)), (2, .ref (ad_ D 20)), (3, .ref (ad_ D 31)), (4, .ref (ad_ D 32)), (0, .ref b), (5, .int (nI i))] → W p l e room_1 s m args below meth c H locs (cells + 12) (slots + 108) Q (F0 m 1435 ls [])) : W p l e room_1 s m args below meth c H locs cells slots Q (F0 m 1108 ls []) := by
  obtain ⟨hC, hvC, ⟨th, rs, sg, S, N, Z, R9, T9, hM, hmr⟩, ⟨f8, hO⟩, ⟨fD, hOD⟩⟩ := id hI
  refine lv_aload_n hx hb dL_law_1108 rfl (lv_at hl 0 rfl) ?_
  refine lv_aload_n hx hb dL_law_1109 rfl (lv_at hl 4 rfl) ?_
  refine lv_iload hx hb dL_law_1110 (lv_at hl 5 rfl) ?_
  refine lv_iconst (v := nI 1) hx hb dL_law_1112 (by decide) ?_
  refine lv_iadd hx hb dL_law_1113 ?_
  refine g_top (y := nI (i + 1)) (nI_add i 1) ?_
  refine va_sld hx hb hX hbl hbA hS (i := nI (i + 1)) (vp_in_nI (by omega) (by omega)) dL_law_1114 ?_
  refine lv_aload_n hx hb dL_law_1115 rfl (lv_at hl 2 rfl) ?_
  refine g_callSH (y := yL_far) (n := 3) (As := [.ref (ad_ D 0), .int (xs (nI (i + 1)).toNatClampNeg), .ref (ad_ D 31)]) (rest := []) hx hb hml hown hts hE hZ hP hS hl.1 (m_L_far l hst D hAD σ Ls (xs (nI (i + 1)).toNatClampNeg) hC hvC f8 hO) k_H_far rfl rfl ⟨Nat.le_of_ble_eq_true rfl, Nat.le_of_ble_eq_true rfl⟩ (Nat.le_of_ble_eq_true rfl) ⟨by show cells + 10 ≤ room_1.cells; exact g_rmC (by omega), by show slots + 60 ≤ room_1.slots; exact g_rmS (by omega)⟩ dL_law_1116 (fun v σ1 H locs hq hP hS => ?_)
  obtain ⟨rfl, hq1⟩ := hq
  refine W.eq (g2 := F0 m 1119 ls [.int (nI (er_wood (xs (nI (i + 1)).toNatClampNeg)))]) rfl ?_
  obtain ⟨hk20, ⟨f9, hO1⟩, hOD1⟩ := wl_keep hO hq1
  rw [hOD] at hOD1
  have hM1 := hM.keep hk20
  refine lv_istore (lv' := [(6, .int (nI (er_wood (xs (nI (i + 1)).toNatClampNeg)))), (1, .ref (ad_ D 0)), (2, .ref (ad_ D 20)), (3, .ref (ad_ D 31)), (4, .ref (ad_ D 32)), (0, .ref b), (5, .int (nI i))]) hx hb dL_law_1119 hl (by decide) rfl (fun ls hl => ?_)
  refine lv_aload_n hx hb dL_law_1121 rfl (lv_at hl 2 rfl) ?_
  refine lv_aload_n hx hb dL_law_1122 rfl (lv_at hl 5 rfl) ?_
  refine lv_iload hx hb dL_law_1123 (lv_at hl 6 rfl) ?_
  refine lv_iconst (v := nI 1) hx hb dL_law_1125 (by decide) ?_
  refine lv_iadd hx hb dL_law_1126 ?_
  refine g_top (y := nI (i + 1)) (nI_add i 1) ?_
  refine va_sld hx hb hX hbl hbA hS (i := nI (i + 1)) (vp_in_nI (by omega) (by omega)) dL_law_1127 ?_
  refine g_callV0 (y := yX3_far) (n := 1) (As := [.int (xs (nI (i + 1)).toNatClampNeg)]) (rest := []) hx hb hml hown hts hE hZ hP hS hl.1 (m_X3_far l D hAD σ1 th rs sg S N Z R9 T9 hM1 Ls (xs (nI (i + 1)).toNatClampNeg) hmr hvC) k_L_131 (ci := 3) (by decide) hM1.1 rfl rfl rfl rfl rfl ⟨rfl, rfl⟩ ⟨Nat.le_of_ble_eq_true rfl, Nat.le_of_ble_eq_true rfl⟩ (Nat.le_of_ble_eq_true rfl) ⟨by show cells + 10 ≤ room_1.cells; exact g_rmC (by omega), by show slots + 60 ≤ room_1.slots; exact g_rmS (by omega)⟩ dL_law_1128 (fun v3 σ3 H locs hq hP hS => ?_)
  obtain ⟨hq3, ho3⟩ := hq
  obtain ⟨r3, rfl⟩ : ∃ r : Int32, v3 = some (.int r) := by
    rcases hq3 with ⟨-, ⟨_, _, _, hv9, _⟩⟩ | ⟨_, _, _, hv9, _⟩
    · exact ⟨_, hv9⟩
    · exact ⟨_, hv9⟩
  refine W.eq (g2 := F0 m 1131 ls [.int r3]) rfl ?_
  obtain ⟨Ls3, hMM3⟩ : ∃ Ls3, g_MM D σ3 (nI (er_wood (xs (nI (i + 1)).toNatClampNeg))) Ls3 := by
    rcases hq3 with ⟨he9, ⟨_, _, _, _, hmm9⟩⟩ | ⟨k9, he9, -, -, hmm9⟩
    · exact ⟨_, by rw [he9]; exact hmm9⟩
    · exact ⟨_, by rw [he9]; exact hmm9⟩
  obtain ⟨rs3, sg3, S3, N3, Z3, R3, T3, hM3, hmr3⟩ := id hMM3
  refine lv_istore (lv' := [(7, .int r3), (6, .int (nI (er_wood (xs (nI (i + 1)).toNatClampNeg)))), (1, .ref (ad_ D 0)), (2, .ref (ad_ D 20)), (3, .ref (ad_ D 31)), (4, .ref (ad_ D 32)), (0, .ref b), (5, .int (nI i))]) hx hb dL_law_1131 hl (by decide) rfl (fun ls hl => ?_)
  refine lv_aload_n hx hb dL_law_1133 rfl (lv_at hl 3 rfl) ?_
  refine g_callV0 (y := yX3_thrown) (n := 0) (As := []) (rest := []) hx hb hml hown hts hE hZ hP hS hl.1 (m_X3_thrown l D hAD σ3 (nI (er_wood (xs (nI (i + 1)).toNatClampNeg))) rs3 sg3 S3 N3 Z3 R3 T3 hM3) k_L_85 (ci := 3) (by decide) hM3.1 rfl rfl rfl rfl rfl ⟨rfl, rfl⟩ ⟨Nat.le_of_ble_eq_true rfl, Nat.le_of_ble_eq_true rfl⟩ (Nat.le_of_ble_eq_true rfl) ⟨by show cells + 10 ≤ room_1.cells; exact g_rmC (by omega), by show slots + 60 ≤ room_1.slots; exact g_rmS (by omega)⟩ dL_law_1134 (fun v4 σ4 H locs hq hP hS => ?_)
  obtain ⟨rfl, rfl⟩ := hq
  refine W.eq (g2 := F0 m 1137 ls [.int (nI (er_wood (xs (nI (i + 1)).toNatClampNeg)))]) rfl ?_
  have hle9 : er_wood (xs (nI (i + 1)).toNatClampNeg) ≤ 3 := by
    unfold er_wood
    (repeat' split) <;> decide
  refine lv_iload hx hb dL_law_1137 (lv_at hl 1 rfl) ?_
  refine lv_icmp_eq (tgt := 1144) hx hb dL_law_1139 (by decide) (fun h1139 => ?_) (fun h1139 => ?_)
  · refine lv_iload hx hb dL_law_1144 (lv_at hl 1 rfl) ?_
    refine lv_if_ne (tgt := 1161) hx hb dL_law_1146 (by decide) (fun h1146 => ?_) (fun h1146 => ?_)
    · have hb1146 := g_ne (a := er_wood (xs (nI (i + 1)).toNatClampNeg)) (b := 0) h1146 (by omega) (by omega)
      refine lv_goto (tgt := 1435) hx hb dL_law_1161 (by decide) ?_
      obtain ⟨hne, hC1, ho1⟩ := hq1.resolve_left (fun z => hb1146 z.1)
      obtain ⟨k9, -, -, -, hmm9⟩ := hq3.resolve_left (fun z => hne z.1)
      have hI9 : g_I9 D σ3 _ := ⟨hC1.off ho3 (by decide), hvC, ⟨_, hmm9⟩, ⟨_, (ho3 31 (by omega)).trans hO1⟩, ⟨_, (ho3 32 (by omega)).trans hOD1⟩⟩
      refine W.widen (k := cells + 12) (n := slots + 108) (by first | exact Nat.le_refl _ | (show cells + 10 ≤ cells + 12; omega)) (by first | exact Nat.le_refl _ | (show slots + 60 ≤ slots + 108; omega)) ?_
      exact kk σ3 _ _ _ _ hI9 hP hS (lv_sub hl [2, 3, 4, 5, 6, 7] rfl)
    · have hb1146 := g_eq (a := er_wood (xs (nI (i + 1)).toNatClampNeg)) (b := 0) h1146 (by omega) (by omega)
      have he0 : er_wood (xs (nI (i + 1)).toNatClampNeg) = 0 := hb1146
      obtain ⟨-, r9, σ2, hok, hoff, hσ1⟩ := hq1.resolve_right (fun z => z.1 he0)
      obtain ⟨-, hok3⟩ := hq3.resolve_right (fun z => by obtain ⟨k9, z1, z2, -⟩ := z; omega)
      obtain ⟨vaw, x0, x1, x2, x3⟩ := hok
      obtain ⟨vbw, y0, y1, y2, y3⟩ := hok3
      have hl24 := (hvC vbw y0).2
      have hzz := zs_le (show (Ls vbw).length ≤ 48 by omega)
      have ee : vbw = vaw := g_eq (y1.symm.trans x1) (by omega) (by omega)
      subst ee
      have hr9 : r9 = r3 := Value.int.inj (Option.some.inj (x2.trans y2.symm))
      have hC1 := x3.up31 (k := 31) (e := .inl (g_cL D, 1, .inr (.inl (vp_updL f8 0 r9.toInt64)))) (by decide)
      rw [← hσ1] at hC1
      have hvC3 := hvC
      refine lv_aload_n hx hb dL_law_1149 rfl (lv_at hl 4 rfl) ?_
      refine lv_iconst (v := nI 0) hx hb dL_law_1150 (by decide) ?_
      have h31 : σ3 31 = .inl (g_cL D, 1, .inr (.inl (vp_updL f8 0 r9.toInt64))) := (ho3 31 (by omega)).trans (by rw [hσ1]; exact g_ups)
      refine g_laldO hx hb hE hP h31 (v := r9.toInt64) (by simp [vp_updL]) dL_law_1151 ?_
      refine lv_iload hx hb dL_law_1152 (lv_at hl 0 rfl) ?_
      refine lv_i2l (v := (r3).toInt64) hx hb dL_law_1154 rfl ?_
      refine W.lcmp hx hb dL_law_1155 ?_
      refine g_top (y := nI 0) (by rw [hr9]; exact lg_self) ?_
      refine lv_if_eq (tgt := 1161) hx hb dL_law_1156 (by decide) (fun h1156 => ?_) (fun h1156 => ?_)
      · refine lv_goto (tgt := 1435) hx hb dL_law_1161 (by decide) ?_
        have hI9 : g_I9 D σ3 _ := ⟨hC1.off ho3 (by decide), hvC3, ⟨_, y3⟩, ⟨_, (ho3 31 (by omega)).trans hO1⟩, ⟨_, (ho3 32 (by omega)).trans hOD1⟩⟩
        refine W.widen (k := cells + 12) (n := slots + 108) (by first | exact Nat.le_refl _ | (show cells + 10 ≤ cells + 12; omega)) (by first | exact Nat.le_refl _ | (show slots + 60 ≤ slots + 108; omega)) ?_
        exact kk σ3 _ _ _ _ hI9 hP hS (lv_sub hl [2, 3, 4, 5, 6, 7] rfl)
      · exact absurd rfl h1156
  · exact absurd rfl h1139

set_option maxHeartbeats 4000000 in
set_option maxRecDepth 100000 in
theorem lc_unlike {p : Program} {l : Launch} {e : Env} {s : State} {m : MethodId} {args : Array Value} {below : List Frame} {meth : Method} {c : Code} {H : Heap} {locs : List Loc} {cells slots : Nat} {Q : State → Prop} (hst : l.stackTraces = false) {D : va_G} (hAD : g_AD D) {σ : Nat → va_E} {Ls : Nat → g_L} (hI : g_I9 D σ Ls) (hx : p.tables.exec = Jvm.exec) (hb : c.code = cL_law) (hml : c.maxLocals = 9) (hown : s.vm.findClass RL = some m.cls) (hts : ∀ w ∈ g_WA, w.before args s = true) (hE : g_EV D s) (hZ : g_EZ (g_A D s.heap.size) s s.heap) {b L : Nat} {xs : Nat → Int32} (hX : va_X b L xs s s.heap) (hbl : b < s.heap.size) (hbA : ¬ g_A D s.heap.size b) {i : Nat} (hi : i + 5 ≤ L) (hL : L ≤ 2560) (hP : va_P D vwCl (g_W D σ) H) (hS : va_S (g_A D s.heap.size) s.heap H locs) {ls : Array Slot} (hl : lv_has ls 9 [(1, .ref (ad_ D 0)), (2, .ref (ad_ D 20)), (3, .ref (ad_ D 31)), (4, .ref (ad_ D 32)), (0, .ref b), (5, .int (nI i))]) (hcs : cells + 12 ≤ 600000) (hsl : slots + 108 ≤ 6500000)
    (kk : ∀ (σ9 : Nat → va_E) (Ls9 : Nat → g_L) (H : Heap) (locs : List Loc) (ls : Array Slot), g_I9 D σ9 Ls9 → va_P D vwCl (g_W D σ9) H → va_S (g_A D s.heap.size) s.heap H locs → lv_has ls 9 [(1, .ref (ad_ D 0)), (2, .ref (ad_ D 20)), (3, .ref (ad_ D 31)), (4, .ref (ad_ D 32)), (0, .ref b), (5, .int (nI i))] → W p l e room_1 s m args below meth c H locs (cells + 12) (slots + 108) Q (F0 m 1435 ls [])) : W p l e room_1 s m args below meth c H locs cells slots Q (F0 m 1164 ls []) := by
  obtain ⟨hC, hvC, ⟨th, rs, sg, S, N, Z, R9, T9, hM, hmr⟩, ⟨f8, hO⟩, ⟨fD, hOD⟩⟩ := id hI
  refine lv_aload_n hx hb dL_law_1164 rfl (lv_at hl 0 rfl) ?_
  refine lv_aload_n hx hb dL_law_1165 rfl (lv_at hl 4 rfl) ?_
  refine lv_iload hx hb dL_law_1166 (lv_at hl 5 rfl) ?_
  refine lv_iconst (v := nI 1) hx hb dL_law_1168 (by decide) ?_
  refine lv_iadd hx hb dL_law_1169 ?_
  refine g_top (y := nI (i + 1)) (nI_add i 1) ?_
  refine va_sld hx hb hX hbl hbA hS (i := nI (i + 1)) (vp_in_nI (by omega) (by omega)) dL_law_1170 ?_
  refine lv_aload_n hx hb dL_law_1171 rfl (lv_at hl 4 rfl) ?_
  refine lv_iload hx hb dL_law_1172 (lv_at hl 5 rfl) ?_
  refine lv_iconst (v := nI 2) hx hb dL_law_1174 (by decide) ?_
  refine lv_iadd hx hb dL_law_1175 ?_
  refine g_top (y := nI (i + 2)) (nI_add i 2) ?_
  refine va_sld hx hb hX hbl hbA hS (i := nI (i + 2)) (vp_in_nI (by omega) (by omega)) dL_law_1176 ?_
  refine lv_aload_n hx hb dL_law_1177 rfl (lv_at hl 2 rfl) ?_
  refine g_callSH (y := yL_unlike) (n := 4) (As := [.ref (ad_ D 0), .int (xs (nI (i + 1)).toNatClampNeg), .int (xs (nI (i + 2)).toNatClampNeg), .ref (ad_ D 31)]) (rest := []) hx hb hml hown hts hE hZ hP hS hl.1 (m_L_unlike l hst D hAD σ Ls (xs (nI (i + 1)).toNatClampNeg) (xs (nI (i + 2)).toNatClampNeg) hC hvC f8 hO) k_H_unlike rfl rfl ⟨Nat.le_of_ble_eq_true rfl, Nat.le_of_ble_eq_true rfl⟩ (Nat.le_of_ble_eq_true rfl) ⟨by show cells + 10 ≤ room_1.cells; exact g_rmC (by omega), by show slots + 60 ≤ room_1.slots; exact g_rmS (by omega)⟩ dL_law_1178 (fun v σ1 H locs hq hP hS => ?_)
  obtain ⟨rfl, hq1⟩ := hq
  refine W.eq (g2 := F0 m 1181 ls [.int (nI (er_unlike (xs (nI (i + 1)).toNatClampNeg) (xs (nI (i + 2)).toNatClampNeg)))]) rfl ?_
  obtain ⟨hk20, ⟨f9, hO1⟩, hOD1⟩ := wl_keep hO hq1
  rw [hOD] at hOD1
  have hM1 := hM.keep hk20
  refine lv_istore (lv' := [(6, .int (nI (er_unlike (xs (nI (i + 1)).toNatClampNeg) (xs (nI (i + 2)).toNatClampNeg)))), (1, .ref (ad_ D 0)), (2, .ref (ad_ D 20)), (3, .ref (ad_ D 31)), (4, .ref (ad_ D 32)), (0, .ref b), (5, .int (nI i))]) hx hb dL_law_1181 hl (by decide) rfl (fun ls hl => ?_)
  refine lv_aload_n hx hb dL_law_1183 rfl (lv_at hl 2 rfl) ?_
  refine lv_aload_n hx hb dL_law_1184 rfl (lv_at hl 5 rfl) ?_
  refine lv_iload hx hb dL_law_1185 (lv_at hl 6 rfl) ?_
  refine lv_iconst (v := nI 1) hx hb dL_law_1187 (by decide) ?_
  refine lv_iadd hx hb dL_law_1188 ?_
  refine g_top (y := nI (i + 1)) (nI_add i 1) ?_
  refine va_sld hx hb hX hbl hbA hS (i := nI (i + 1)) (vp_in_nI (by omega) (by omega)) dL_law_1189 ?_
  refine lv_aload_n hx hb dL_law_1190 rfl (lv_at hl 5 rfl) ?_
  refine lv_iload hx hb dL_law_1191 (lv_at hl 6 rfl) ?_
  refine lv_iconst (v := nI 2) hx hb dL_law_1193 (by decide) ?_
  refine lv_iadd hx hb dL_law_1194 ?_
  refine g_top (y := nI (i + 2)) (nI_add i 2) ?_
  refine va_sld hx hb hX hbl hbA hS (i := nI (i + 2)) (vp_in_nI (by omega) (by omega)) dL_law_1195 ?_
  refine g_callV0 (y := yX3_unlike) (n := 2) (As := [.int (xs (nI (i + 1)).toNatClampNeg), .int (xs (nI (i + 2)).toNatClampNeg)]) (rest := []) hx hb hml hown hts hE hZ hP hS hl.1 (m_X3_unlike l D hAD σ1 th rs sg S N Z R9 T9 hM1 Ls (xs (nI (i + 1)).toNatClampNeg) (xs (nI (i + 2)).toNatClampNeg) hmr hvC) k_L_134 (ci := 3) (by decide) hM1.1 rfl rfl rfl rfl rfl ⟨rfl, rfl⟩ ⟨Nat.le_of_ble_eq_true rfl, Nat.le_of_ble_eq_true rfl⟩ (Nat.le_of_ble_eq_true rfl) ⟨by show cells + 10 ≤ room_1.cells; exact g_rmC (by omega), by show slots + 60 ≤ room_1.slots; exact g_rmS (by omega)⟩ dL_law_1196 (fun v3 σ3 H locs hq hP hS => ?_)
  obtain ⟨hq3, ho3⟩ := hq
  obtain ⟨r3, rfl⟩ : ∃ r : Int32, v3 = some (.int r) := by
    rcases hq3 with ⟨-, ⟨hv9, _⟩⟩ | ⟨_, _, _, hv9, _⟩
    · exact ⟨_, hv9⟩
    · exact ⟨_, hv9⟩
  refine W.eq (g2 := F0 m 1199 ls [.int r3]) rfl ?_
  obtain ⟨Ls3, hMM3⟩ : ∃ Ls3, g_MM D σ3 (nI (er_unlike (xs (nI (i + 1)).toNatClampNeg) (xs (nI (i + 2)).toNatClampNeg))) Ls3 := by
    rcases hq3 with ⟨he9, ⟨_, _, _, hmm9⟩⟩ | ⟨k9, he9, -, -, hmm9⟩
    · exact ⟨_, by rw [he9]; exact hmm9⟩
    · exact ⟨_, by rw [he9]; exact hmm9⟩
  obtain ⟨rs3, sg3, S3, N3, Z3, R3, T3, hM3, hmr3⟩ := id hMM3
  refine lv_istore (lv' := [(7, .int r3), (6, .int (nI (er_unlike (xs (nI (i + 1)).toNatClampNeg) (xs (nI (i + 2)).toNatClampNeg)))), (1, .ref (ad_ D 0)), (2, .ref (ad_ D 20)), (3, .ref (ad_ D 31)), (4, .ref (ad_ D 32)), (0, .ref b), (5, .int (nI i))]) hx hb dL_law_1199 hl (by decide) rfl (fun ls hl => ?_)
  refine lv_aload_n hx hb dL_law_1201 rfl (lv_at hl 3 rfl) ?_
  refine g_callV0 (y := yX3_thrown) (n := 0) (As := []) (rest := []) hx hb hml hown hts hE hZ hP hS hl.1 (m_X3_thrown l D hAD σ3 (nI (er_unlike (xs (nI (i + 1)).toNatClampNeg) (xs (nI (i + 2)).toNatClampNeg))) rs3 sg3 S3 N3 Z3 R3 T3 hM3) k_L_85 (ci := 3) (by decide) hM3.1 rfl rfl rfl rfl rfl ⟨rfl, rfl⟩ ⟨Nat.le_of_ble_eq_true rfl, Nat.le_of_ble_eq_true rfl⟩ (Nat.le_of_ble_eq_true rfl) ⟨by show cells + 10 ≤ room_1.cells; exact g_rmC (by omega), by show slots + 60 ≤ room_1.slots; exact g_rmS (by omega)⟩ dL_law_1202 (fun v4 σ4 H locs hq hP hS => ?_)
  obtain ⟨rfl, rfl⟩ := hq
  refine W.eq (g2 := F0 m 1205 ls [.int (nI (er_unlike (xs (nI (i + 1)).toNatClampNeg) (xs (nI (i + 2)).toNatClampNeg)))]) rfl ?_
  have hle9 : er_unlike (xs (nI (i + 1)).toNatClampNeg) (xs (nI (i + 2)).toNatClampNeg) ≤ 3 := by
    unfold er_unlike
    (repeat' split) <;> decide
  refine lv_iload hx hb dL_law_1205 (lv_at hl 1 rfl) ?_
  refine lv_icmp_eq (tgt := 1212) hx hb dL_law_1207 (by decide) (fun h1207 => ?_) (fun h1207 => ?_)
  · refine lv_iload hx hb dL_law_1212 (lv_at hl 1 rfl) ?_
    refine lv_if_ne (tgt := 1229) hx hb dL_law_1214 (by decide) (fun h1214 => ?_) (fun h1214 => ?_)
    · have hb1214 := g_ne (a := er_unlike (xs (nI (i + 1)).toNatClampNeg) (xs (nI (i + 2)).toNatClampNeg)) (b := 0) h1214 (by omega) (by omega)
      refine lv_goto (tgt := 1435) hx hb dL_law_1229 (by decide) ?_
      obtain ⟨hne, hC1, ho1⟩ := hq1.resolve_left (fun z => hb1214 z.1)
      obtain ⟨k9, -, -, -, hmm9⟩ := hq3.resolve_left (fun z => hne z.1)
      have hI9 : g_I9 D σ3 _ := ⟨hC1.off ho3 (by decide), hvC, ⟨_, hmm9⟩, ⟨_, (ho3 31 (by omega)).trans hO1⟩, ⟨_, (ho3 32 (by omega)).trans hOD1⟩⟩
      refine W.widen (k := cells + 12) (n := slots + 108) (by first | exact Nat.le_refl _ | (show cells + 10 ≤ cells + 12; omega)) (by first | exact Nat.le_refl _ | (show slots + 60 ≤ slots + 108; omega)) ?_
      exact kk σ3 _ _ _ _ hI9 hP hS (lv_sub hl [2, 3, 4, 5, 6, 7] rfl)
    · have hb1214 := g_eq (a := er_unlike (xs (nI (i + 1)).toNatClampNeg) (xs (nI (i + 2)).toNatClampNeg)) (b := 0) h1214 (by omega) (by omega)
      have he0 : er_unlike (xs (nI (i + 1)).toNatClampNeg) (xs (nI (i + 2)).toNatClampNeg) = 0 := hb1214
      obtain ⟨-, r9, σ2, hok, hoff, hσ1⟩ := hq1.resolve_right (fun z => z.1 he0)
      obtain ⟨-, hok3⟩ := hq3.resolve_right (fun z => by obtain ⟨k9, z1, z2, -⟩ := z; omega)
      obtain ⟨x0, x1, x2, x3⟩ := hok
      obtain ⟨y0, y1, y2, y3⟩ := hok3
      have hr9 : r9 = r3 := Value.int.inj (Option.some.inj (x0.trans y0.symm))
      have hC1 := x3.up31 (k := 31) (e := .inl (g_cL D, 1, .inr (.inl (vp_updL f8 0 r9.toInt64)))) (by decide)
      rw [← hσ1] at hC1
      have hvC3 := hvC
      refine lv_aload_n hx hb dL_law_1217 rfl (lv_at hl 4 rfl) ?_
      refine lv_iconst (v := nI 0) hx hb dL_law_1218 (by decide) ?_
      have h31 : σ3 31 = .inl (g_cL D, 1, .inr (.inl (vp_updL f8 0 r9.toInt64))) := (ho3 31 (by omega)).trans (by rw [hσ1]; exact g_ups)
      refine g_laldO hx hb hE hP h31 (v := r9.toInt64) (by simp [vp_updL]) dL_law_1219 ?_
      refine lv_iload hx hb dL_law_1220 (lv_at hl 0 rfl) ?_
      refine lv_i2l (v := (r3).toInt64) hx hb dL_law_1222 rfl ?_
      refine W.lcmp hx hb dL_law_1223 ?_
      refine g_top (y := nI 0) (by rw [hr9]; exact lg_self) ?_
      refine lv_if_eq (tgt := 1229) hx hb dL_law_1224 (by decide) (fun h1224 => ?_) (fun h1224 => ?_)
      · refine lv_goto (tgt := 1435) hx hb dL_law_1229 (by decide) ?_
        have hI9 : g_I9 D σ3 _ := ⟨hC1.off ho3 (by decide), hvC3, ⟨_, y3⟩, ⟨_, (ho3 31 (by omega)).trans hO1⟩, ⟨_, (ho3 32 (by omega)).trans hOD1⟩⟩
        refine W.widen (k := cells + 12) (n := slots + 108) (by first | exact Nat.le_refl _ | (show cells + 10 ≤ cells + 12; omega)) (by first | exact Nat.le_refl _ | (show slots + 60 ≤ slots + 108; omega)) ?_
        exact kk σ3 _ _ _ _ hI9 hP hS (lv_sub hl [2, 3, 4, 5, 6, 7] rfl)
      · exact absurd rfl h1224
  · exact absurd rfl h1207

set_option maxHeartbeats 4000000 in
set_option maxRecDepth 100000 in
theorem lc_would {p : Program} {l : Launch} {e : Env} {s : State} {m : MethodId} {args : Array Value} {below : List Frame} {meth : Method} {c : Code} {H : Heap} {locs : List Loc} {cells slots : Nat} {Q : State → Prop} (hst : l.stackTraces = false) {D : va_G} (hAD : g_AD D) {σ : Nat → va_E} {Ls : Nat → g_L} (hI : g_I9 D σ Ls) (hx : p.tables.exec = Jvm.exec) (hb : c.code = cL_law) (hml : c.maxLocals = 9) (hown : s.vm.findClass RL = some m.cls) (hts : ∀ w ∈ g_WA, w.before args s = true) (hE : g_EV D s) (hZ : g_EZ (g_A D s.heap.size) s s.heap) {b L : Nat} {xs : Nat → Int32} (hX : va_X b L xs s s.heap) (hbl : b < s.heap.size) (hbA : ¬ g_A D s.heap.size b) {i : Nat} (hi : i + 5 ≤ L) (hL : L ≤ 2560) (hP : va_P D vwCl (g_W D σ) H) (hS : va_S (g_A D s.heap.size) s.heap H locs) {ls : Array Slot} (hl : lv_has ls 9 [(1, .ref (ad_ D 0)), (2, .ref (ad_ D 20)), (3, .ref (ad_ D 31)), (4, .ref (ad_ D 32)), (0, .ref b), (5, .int (nI i))]) (hcs : cells + 12 ≤ 600000) (hsl : slots + 108 ≤ 6500000)
    (kk : ∀ (σ9 : Nat → va_E) (Ls9 : Nat → g_L) (H : Heap) (locs : List Loc) (ls : Array Slot), g_I9 D σ9 Ls9 → va_P D vwCl (g_W D σ9) H → va_S (g_A D s.heap.size) s.heap H locs → lv_has ls 9 [(1, .ref (ad_ D 0)), (2, .ref (ad_ D 20)), (3, .ref (ad_ D 31)), (4, .ref (ad_ D 32)), (0, .ref b), (5, .int (nI i))] → W p l e room_1 s m args below meth c H locs (cells + 12) (slots + 108) Q (F0 m 1435 ls [])) : W p l e room_1 s m args below meth c H locs cells slots Q (F0 m 1232 ls []) := by
  obtain ⟨hC, hvC, ⟨th, rs, sg, S, N, Z, R9, T9, hM, hmr⟩, ⟨f8, hO⟩, ⟨fD, hOD⟩⟩ := id hI
  refine lv_aload_n hx hb dL_law_1232 rfl (lv_at hl 0 rfl) ?_
  refine lv_aload_n hx hb dL_law_1233 rfl (lv_at hl 4 rfl) ?_
  refine lv_iload hx hb dL_law_1234 (lv_at hl 5 rfl) ?_
  refine lv_iconst (v := nI 1) hx hb dL_law_1236 (by decide) ?_
  refine lv_iadd hx hb dL_law_1237 ?_
  refine g_top (y := nI (i + 1)) (nI_add i 1) ?_
  refine va_sld hx hb hX hbl hbA hS (i := nI (i + 1)) (vp_in_nI (by omega) (by omega)) dL_law_1238 ?_
  refine lv_aload_n hx hb dL_law_1239 rfl (lv_at hl 2 rfl) ?_
  refine g_callSH (y := yL_would) (n := 3) (As := [.ref (ad_ D 0), .int (xs (nI (i + 1)).toNatClampNeg), .ref (ad_ D 31)]) (rest := []) hx hb hml hown hts hE hZ hP hS hl.1 (m_L_would l hst D hAD σ Ls (xs (nI (i + 1)).toNatClampNeg) hC hvC f8 hO) k_H_would rfl rfl ⟨Nat.le_of_ble_eq_true rfl, Nat.le_of_ble_eq_true rfl⟩ (Nat.le_of_ble_eq_true rfl) ⟨by show cells + 10 ≤ room_1.cells; exact g_rmC (by omega), by show slots + 60 ≤ room_1.slots; exact g_rmS (by omega)⟩ dL_law_1240 (fun v σ1 H locs hq hP hS => ?_)
  obtain ⟨rfl, hq1⟩ := hq
  refine W.eq (g2 := F0 m 1243 ls [.int (nI (er_would (xs (nI (i + 1)).toNatClampNeg)))]) rfl ?_
  obtain ⟨hk20, ⟨f9, hO1⟩, hOD1⟩ := wl_keep hO hq1
  rw [hOD] at hOD1
  have hM1 := hM.keep hk20
  refine lv_istore (lv' := [(6, .int (nI (er_would (xs (nI (i + 1)).toNatClampNeg)))), (1, .ref (ad_ D 0)), (2, .ref (ad_ D 20)), (3, .ref (ad_ D 31)), (4, .ref (ad_ D 32)), (0, .ref b), (5, .int (nI i))]) hx hb dL_law_1243 hl (by decide) rfl (fun ls hl => ?_)
  refine lv_aload_n hx hb dL_law_1245 rfl (lv_at hl 2 rfl) ?_
  refine lv_aload_n hx hb dL_law_1246 rfl (lv_at hl 5 rfl) ?_
  refine lv_iload hx hb dL_law_1247 (lv_at hl 6 rfl) ?_
  refine lv_iconst (v := nI 1) hx hb dL_law_1249 (by decide) ?_
  refine lv_iadd hx hb dL_law_1250 ?_
  refine g_top (y := nI (i + 1)) (nI_add i 1) ?_
  refine va_sld hx hb hX hbl hbA hS (i := nI (i + 1)) (vp_in_nI (by omega) (by omega)) dL_law_1251 ?_
  refine g_callV0 (y := yX3_would) (n := 1) (As := [.int (xs (nI (i + 1)).toNatClampNeg)]) (rest := []) hx hb hml hown hts hE hZ hP hS hl.1 (m_X3_would l D hAD σ1 th rs sg S N Z R9 T9 hM1 Ls (xs (nI (i + 1)).toNatClampNeg) hmr hvC) k_L_137 (ci := 3) (by decide) hM1.1 rfl rfl rfl rfl rfl ⟨rfl, rfl⟩ ⟨Nat.le_of_ble_eq_true rfl, Nat.le_of_ble_eq_true rfl⟩ (Nat.le_of_ble_eq_true rfl) ⟨by show cells + 10 ≤ room_1.cells; exact g_rmC (by omega), by show slots + 60 ≤ room_1.slots; exact g_rmS (by omega)⟩ dL_law_1252 (fun v3 σ3 H locs hq hP hS => ?_)
  obtain ⟨hq3, ho3⟩ := hq
  obtain ⟨r3, rfl⟩ : ∃ r : Int32, v3 = some (.int r) := by
    rcases hq3 with ⟨-, ⟨_, _, _, hv9, _⟩⟩ | ⟨_, _, _, hv9, _⟩
    · exact ⟨_, hv9⟩
    · exact ⟨_, hv9⟩
  refine W.eq (g2 := F0 m 1255 ls [.int r3]) rfl ?_
  obtain ⟨Ls3, hMM3⟩ : ∃ Ls3, g_MM D σ3 (nI (er_would (xs (nI (i + 1)).toNatClampNeg))) Ls3 := by
    rcases hq3 with ⟨he9, ⟨_, _, _, _, hmm9⟩⟩ | ⟨k9, he9, -, -, hmm9⟩
    · exact ⟨_, by rw [he9]; exact hmm9⟩
    · exact ⟨_, by rw [he9]; exact hmm9⟩
  obtain ⟨rs3, sg3, S3, N3, Z3, R3, T3, hM3, hmr3⟩ := id hMM3
  refine lv_istore (lv' := [(7, .int r3), (6, .int (nI (er_would (xs (nI (i + 1)).toNatClampNeg)))), (1, .ref (ad_ D 0)), (2, .ref (ad_ D 20)), (3, .ref (ad_ D 31)), (4, .ref (ad_ D 32)), (0, .ref b), (5, .int (nI i))]) hx hb dL_law_1255 hl (by decide) rfl (fun ls hl => ?_)
  refine lv_aload_n hx hb dL_law_1257 rfl (lv_at hl 3 rfl) ?_
  refine g_callV0 (y := yX3_thrown) (n := 0) (As := []) (rest := []) hx hb hml hown hts hE hZ hP hS hl.1 (m_X3_thrown l D hAD σ3 (nI (er_would (xs (nI (i + 1)).toNatClampNeg))) rs3 sg3 S3 N3 Z3 R3 T3 hM3) k_L_85 (ci := 3) (by decide) hM3.1 rfl rfl rfl rfl rfl ⟨rfl, rfl⟩ ⟨Nat.le_of_ble_eq_true rfl, Nat.le_of_ble_eq_true rfl⟩ (Nat.le_of_ble_eq_true rfl) ⟨by show cells + 10 ≤ room_1.cells; exact g_rmC (by omega), by show slots + 60 ≤ room_1.slots; exact g_rmS (by omega)⟩ dL_law_1258 (fun v4 σ4 H locs hq hP hS => ?_)
  obtain ⟨rfl, rfl⟩ := hq
  refine W.eq (g2 := F0 m 1261 ls [.int (nI (er_would (xs (nI (i + 1)).toNatClampNeg)))]) rfl ?_
  have hle9 : er_would (xs (nI (i + 1)).toNatClampNeg) ≤ 3 := by
    unfold er_would
    (repeat' split) <;> decide
  refine lv_iload hx hb dL_law_1261 (lv_at hl 1 rfl) ?_
  refine lv_icmp_eq (tgt := 1268) hx hb dL_law_1263 (by decide) (fun h1263 => ?_) (fun h1263 => ?_)
  · refine lv_iload hx hb dL_law_1268 (lv_at hl 1 rfl) ?_
    refine lv_if_ne (tgt := 1285) hx hb dL_law_1270 (by decide) (fun h1270 => ?_) (fun h1270 => ?_)
    · have hb1270 := g_ne (a := er_would (xs (nI (i + 1)).toNatClampNeg)) (b := 0) h1270 (by omega) (by omega)
      refine lv_goto (tgt := 1435) hx hb dL_law_1285 (by decide) ?_
      obtain ⟨hne, hC1, ho1⟩ := hq1.resolve_left (fun z => hb1270 z.1)
      obtain ⟨k9, -, -, -, hmm9⟩ := hq3.resolve_left (fun z => hne z.1)
      have hI9 : g_I9 D σ3 _ := ⟨hC1.off ho3 (by decide), hvC, ⟨_, hmm9⟩, ⟨_, (ho3 31 (by omega)).trans hO1⟩, ⟨_, (ho3 32 (by omega)).trans hOD1⟩⟩
      refine W.widen (k := cells + 12) (n := slots + 108) (by first | exact Nat.le_refl _ | (show cells + 10 ≤ cells + 12; omega)) (by first | exact Nat.le_refl _ | (show slots + 60 ≤ slots + 108; omega)) ?_
      exact kk σ3 _ _ _ _ hI9 hP hS (lv_sub hl [2, 3, 4, 5, 6, 7] rfl)
    · have hb1270 := g_eq (a := er_would (xs (nI (i + 1)).toNatClampNeg)) (b := 0) h1270 (by omega) (by omega)
      have he0 : er_would (xs (nI (i + 1)).toNatClampNeg) = 0 := hb1270
      obtain ⟨-, r9, σ2, hok, hoff, hσ1⟩ := hq1.resolve_right (fun z => z.1 he0)
      obtain ⟨-, hok3⟩ := hq3.resolve_right (fun z => by obtain ⟨k9, z1, z2, -⟩ := z; omega)
      obtain ⟨vat, x0, x1, x2, x3⟩ := hok
      obtain ⟨vbt, y0, y1, y2, y3⟩ := hok3
      have ee : vbt = vat := g_eq (y1.symm.trans x1) (by omega) (by omega)
      subst ee
      have hr9 : r9 = r3 := Value.int.inj (Option.some.inj (x2.trans y2.symm))
      have hC1 := x3.up31 (k := 31) (e := .inl (g_cL D, 1, .inr (.inl (vp_updL f8 0 r9.toInt64)))) (by decide)
      rw [← hσ1] at hC1
      have hvC3 := hvC
      refine lv_aload_n hx hb dL_law_1273 rfl (lv_at hl 4 rfl) ?_
      refine lv_iconst (v := nI 0) hx hb dL_law_1274 (by decide) ?_
      have h31 : σ3 31 = .inl (g_cL D, 1, .inr (.inl (vp_updL f8 0 r9.toInt64))) := (ho3 31 (by omega)).trans (by rw [hσ1]; exact g_ups)
      refine g_laldO hx hb hE hP h31 (v := r9.toInt64) (by simp [vp_updL]) dL_law_1275 ?_
      refine lv_iload hx hb dL_law_1276 (lv_at hl 0 rfl) ?_
      refine lv_i2l (v := (r3).toInt64) hx hb dL_law_1278 rfl ?_
      refine W.lcmp hx hb dL_law_1279 ?_
      refine g_top (y := nI 0) (by rw [hr9]; exact lg_self) ?_
      refine lv_if_eq (tgt := 1285) hx hb dL_law_1280 (by decide) (fun h1280 => ?_) (fun h1280 => ?_)
      · refine lv_goto (tgt := 1435) hx hb dL_law_1285 (by decide) ?_
        have hI9 : g_I9 D σ3 _ := ⟨hC1.off ho3 (by decide), hvC3, ⟨_, y3⟩, ⟨_, (ho3 31 (by omega)).trans hO1⟩, ⟨_, (ho3 32 (by omega)).trans hOD1⟩⟩
        refine W.widen (k := cells + 12) (n := slots + 108) (by first | exact Nat.le_refl _ | (show cells + 10 ≤ cells + 12; omega)) (by first | exact Nat.le_refl _ | (show slots + 60 ≤ slots + 108; omega)) ?_
        exact kk σ3 _ _ _ _ hI9 hP hS (lv_sub hl [2, 3, 4, 5, 6, 7] rfl)
      · exact absurd rfl h1280
  · exact absurd rfl h1263

set_option maxHeartbeats 4000000 in
set_option maxRecDepth 100000 in
theorem lc_advise {p : Program} {l : Launch} {e : Env} {s : State} {m : MethodId} {args : Array Value} {below : List Frame} {meth : Method} {c : Code} {H : Heap} {locs : List Loc} {cells slots : Nat} {Q : State → Prop} (hst : l.stackTraces = false) {D : va_G} (hAD : g_AD D) {σ : Nat → va_E} {Ls : Nat → g_L} (hI : g_I9 D σ Ls) (hx : p.tables.exec = Jvm.exec) (hb : c.code = cL_law) (hml : c.maxLocals = 9) (hown : s.vm.findClass RL = some m.cls) (hts : ∀ w ∈ g_WA, w.before args s = true) (hE : g_EV D s) (hZ : g_EZ (g_A D s.heap.size) s s.heap) {b L : Nat} {xs : Nat → Int32} (hX : va_X b L xs s s.heap) (hbl : b < s.heap.size) (hbA : ¬ g_A D s.heap.size b) {i : Nat} (hi : i + 5 ≤ L) (hL : L ≤ 2560) (hP : va_P D vwCl (g_W D σ) H) (hS : va_S (g_A D s.heap.size) s.heap H locs) {ls : Array Slot} (hl : lv_has ls 9 [(1, .ref (ad_ D 0)), (2, .ref (ad_ D 20)), (3, .ref (ad_ D 31)), (4, .ref (ad_ D 32)), (0, .ref b), (5, .int (nI i))]) (hcs : cells + 12 ≤ 600000) (hsl : slots + 108 ≤ 6500000)
    (kk : ∀ (σ9 : Nat → va_E) (Ls9 : Nat → g_L) (H : Heap) (locs : List Loc) (ls : Array Slot), g_I9 D σ9 Ls9 → va_P D vwCl (g_W D σ9) H → va_S (g_A D s.heap.size) s.heap H locs → lv_has ls 9 [(1, .ref (ad_ D 0)), (2, .ref (ad_ D 20)), (3, .ref (ad_ D 31)), (4, .ref (ad_ D 32)), (0, .ref b), (5, .int (nI i))] → W p l e room_1 s m args below meth c H locs (cells + 12) (slots + 108) Q (F0 m 1435 ls [])) : W p l e room_1 s m args below meth c H locs cells slots Q (F0 m 1288 ls []) := by
  obtain ⟨hC, hvC, ⟨th, rs, sg, S, N, Z, R9, T9, hM, hmr⟩, ⟨f8, hO⟩, ⟨fD, hOD⟩⟩ := id hI
  refine lv_aload_n hx hb dL_law_1288 rfl (lv_at hl 0 rfl) ?_
  refine lv_aload_n hx hb dL_law_1289 rfl (lv_at hl 4 rfl) ?_
  refine lv_iload hx hb dL_law_1290 (lv_at hl 5 rfl) ?_
  refine lv_iconst (v := nI 1) hx hb dL_law_1292 (by decide) ?_
  refine lv_iadd hx hb dL_law_1293 ?_
  refine g_top (y := nI (i + 1)) (nI_add i 1) ?_
  refine va_sld hx hb hX hbl hbA hS (i := nI (i + 1)) (vp_in_nI (by omega) (by omega)) dL_law_1294 ?_
  refine lv_aload_n hx hb dL_law_1295 rfl (lv_at hl 2 rfl) ?_
  refine g_callSH (y := yL_advise) (n := 3) (As := [.ref (ad_ D 0), .int (xs (nI (i + 1)).toNatClampNeg), .ref (ad_ D 31)]) (rest := []) hx hb hml hown hts hE hZ hP hS hl.1 (m_L_advise l hst D hAD σ Ls (xs (nI (i + 1)).toNatClampNeg) hC hvC f8 hO) k_H_advise rfl rfl ⟨Nat.le_of_ble_eq_true rfl, Nat.le_of_ble_eq_true rfl⟩ (Nat.le_of_ble_eq_true rfl) ⟨by show cells + 10 ≤ room_1.cells; exact g_rmC (by omega), by show slots + 60 ≤ room_1.slots; exact g_rmS (by omega)⟩ dL_law_1296 (fun v σ1 H locs hq hP hS => ?_)
  obtain ⟨rfl, hq1⟩ := hq
  refine W.eq (g2 := F0 m 1299 ls [.int (nI (er_wood (xs (nI (i + 1)).toNatClampNeg)))]) rfl ?_
  obtain ⟨hk20, ⟨f9, hO1⟩, hOD1⟩ := wl_keep hO hq1
  rw [hOD] at hOD1
  have hM1 := hM.keep hk20
  refine lv_istore (lv' := [(6, .int (nI (er_wood (xs (nI (i + 1)).toNatClampNeg)))), (1, .ref (ad_ D 0)), (2, .ref (ad_ D 20)), (3, .ref (ad_ D 31)), (4, .ref (ad_ D 32)), (0, .ref b), (5, .int (nI i))]) hx hb dL_law_1299 hl (by decide) rfl (fun ls hl => ?_)
  refine lv_aload_n hx hb dL_law_1301 rfl (lv_at hl 2 rfl) ?_
  refine lv_aload_n hx hb dL_law_1302 rfl (lv_at hl 5 rfl) ?_
  refine lv_iload hx hb dL_law_1303 (lv_at hl 6 rfl) ?_
  refine lv_iconst (v := nI 1) hx hb dL_law_1305 (by decide) ?_
  refine lv_iadd hx hb dL_law_1306 ?_
  refine g_top (y := nI (i + 1)) (nI_add i 1) ?_
  refine va_sld hx hb hX hbl hbA hS (i := nI (i + 1)) (vp_in_nI (by omega) (by omega)) dL_law_1307 ?_
  refine g_callV0 (y := yX3_advise) (n := 1) (As := [.int (xs (nI (i + 1)).toNatClampNeg)]) (rest := []) hx hb hml hown hts hE hZ hP hS hl.1 (m_X3_advise l D hAD σ1 th rs sg S N Z R9 T9 hM1 Ls (xs (nI (i + 1)).toNatClampNeg) hmr hvC) k_L_140 (ci := 3) (by decide) hM1.1 rfl rfl rfl rfl rfl ⟨rfl, rfl⟩ ⟨Nat.le_of_ble_eq_true rfl, Nat.le_of_ble_eq_true rfl⟩ (Nat.le_of_ble_eq_true rfl) ⟨by show cells + 10 ≤ room_1.cells; exact g_rmC (by omega), by show slots + 60 ≤ room_1.slots; exact g_rmS (by omega)⟩ dL_law_1308 (fun v3 σ3 H locs hq hP hS => ?_)
  obtain ⟨hq3, ho3⟩ := hq
  obtain ⟨r3, rfl⟩ : ∃ r : Int32, v3 = some (.int r) := by
    rcases hq3 with ⟨-, ⟨_, _, _, hv9, _⟩⟩ | ⟨_, _, _, hv9, _⟩
    · exact ⟨_, hv9⟩
    · exact ⟨_, hv9⟩
  refine W.eq (g2 := F0 m 1311 ls [.int r3]) rfl ?_
  obtain ⟨Ls3, hMM3⟩ : ∃ Ls3, g_MM D σ3 (nI (er_wood (xs (nI (i + 1)).toNatClampNeg))) Ls3 := by
    rcases hq3 with ⟨he9, ⟨_, _, _, _, hmm9⟩⟩ | ⟨k9, he9, -, -, hmm9⟩
    · exact ⟨_, by rw [he9]; exact hmm9⟩
    · exact ⟨_, by rw [he9]; exact hmm9⟩
  obtain ⟨rs3, sg3, S3, N3, Z3, R3, T3, hM3, hmr3⟩ := id hMM3
  refine lv_istore (lv' := [(7, .int r3), (6, .int (nI (er_wood (xs (nI (i + 1)).toNatClampNeg)))), (1, .ref (ad_ D 0)), (2, .ref (ad_ D 20)), (3, .ref (ad_ D 31)), (4, .ref (ad_ D 32)), (0, .ref b), (5, .int (nI i))]) hx hb dL_law_1311 hl (by decide) rfl (fun ls hl => ?_)
  refine lv_aload_n hx hb dL_law_1313 rfl (lv_at hl 3 rfl) ?_
  refine g_callV0 (y := yX3_thrown) (n := 0) (As := []) (rest := []) hx hb hml hown hts hE hZ hP hS hl.1 (m_X3_thrown l D hAD σ3 (nI (er_wood (xs (nI (i + 1)).toNatClampNeg))) rs3 sg3 S3 N3 Z3 R3 T3 hM3) k_L_85 (ci := 3) (by decide) hM3.1 rfl rfl rfl rfl rfl ⟨rfl, rfl⟩ ⟨Nat.le_of_ble_eq_true rfl, Nat.le_of_ble_eq_true rfl⟩ (Nat.le_of_ble_eq_true rfl) ⟨by show cells + 10 ≤ room_1.cells; exact g_rmC (by omega), by show slots + 60 ≤ room_1.slots; exact g_rmS (by omega)⟩ dL_law_1314 (fun v4 σ4 H locs hq hP hS => ?_)
  obtain ⟨rfl, rfl⟩ := hq
  refine W.eq (g2 := F0 m 1317 ls [.int (nI (er_wood (xs (nI (i + 1)).toNatClampNeg)))]) rfl ?_
  have hle9 : er_wood (xs (nI (i + 1)).toNatClampNeg) ≤ 3 := by
    unfold er_wood
    (repeat' split) <;> decide
  refine lv_iload hx hb dL_law_1317 (lv_at hl 1 rfl) ?_
  refine lv_icmp_eq (tgt := 1324) hx hb dL_law_1319 (by decide) (fun h1319 => ?_) (fun h1319 => ?_)
  · refine lv_iload hx hb dL_law_1324 (lv_at hl 1 rfl) ?_
    refine lv_if_ne (tgt := 1341) hx hb dL_law_1326 (by decide) (fun h1326 => ?_) (fun h1326 => ?_)
    · have hb1326 := g_ne (a := er_wood (xs (nI (i + 1)).toNatClampNeg)) (b := 0) h1326 (by omega) (by omega)
      refine lv_goto (tgt := 1435) hx hb dL_law_1341 (by decide) ?_
      obtain ⟨hne, hC1, ho1⟩ := hq1.resolve_left (fun z => hb1326 z.1)
      obtain ⟨k9, -, -, -, hmm9⟩ := hq3.resolve_left (fun z => hne z.1)
      have hI9 : g_I9 D σ3 _ := ⟨hC1.off ho3 (by decide), hvC, ⟨_, hmm9⟩, ⟨_, (ho3 31 (by omega)).trans hO1⟩, ⟨_, (ho3 32 (by omega)).trans hOD1⟩⟩
      refine W.widen (k := cells + 12) (n := slots + 108) (by first | exact Nat.le_refl _ | (show cells + 10 ≤ cells + 12; omega)) (by first | exact Nat.le_refl _ | (show slots + 60 ≤ slots + 108; omega)) ?_
      exact kk σ3 _ _ _ _ hI9 hP hS (lv_sub hl [2, 3, 4, 5, 6, 7] rfl)
    · have hb1326 := g_eq (a := er_wood (xs (nI (i + 1)).toNatClampNeg)) (b := 0) h1326 (by omega) (by omega)
      have he0 : er_wood (xs (nI (i + 1)).toNatClampNeg) = 0 := hb1326
      obtain ⟨-, r9, σ2, hok, hoff, hσ1⟩ := hq1.resolve_right (fun z => z.1 he0)
      obtain ⟨-, hok3⟩ := hq3.resolve_right (fun z => by obtain ⟨k9, z1, z2, -⟩ := z; omega)
      obtain ⟨vaw, x0, x1, x2, x3⟩ := hok
      obtain ⟨vbw, y0, y1, y2, y3⟩ := hok3
      have hl24 := (hvC vbw y0).2
      have hzz := zs_le (show (Ls vbw).length ≤ 48 by omega)
      have ee : vbw = vaw := g_eq (y1.symm.trans x1) (by omega) (by omega)
      subst ee
      have hr9 : r9 = r3 := Value.int.inj (Option.some.inj (x2.trans y2.symm))
      have hC1 := x3.up31 (k := 31) (e := .inl (g_cL D, 1, .inr (.inl (vp_updL f8 0 r9.toInt64)))) (by decide)
      rw [← hσ1] at hC1
      have hvC3 := hvC
      refine lv_aload_n hx hb dL_law_1329 rfl (lv_at hl 4 rfl) ?_
      refine lv_iconst (v := nI 0) hx hb dL_law_1330 (by decide) ?_
      have h31 : σ3 31 = .inl (g_cL D, 1, .inr (.inl (vp_updL f8 0 r9.toInt64))) := (ho3 31 (by omega)).trans (by rw [hσ1]; exact g_ups)
      refine g_laldO hx hb hE hP h31 (v := r9.toInt64) (by simp [vp_updL]) dL_law_1331 ?_
      refine lv_iload hx hb dL_law_1332 (lv_at hl 0 rfl) ?_
      refine lv_i2l (v := (r3).toInt64) hx hb dL_law_1334 rfl ?_
      refine W.lcmp hx hb dL_law_1335 ?_
      refine g_top (y := nI 0) (by rw [hr9]; exact lg_self) ?_
      refine lv_if_eq (tgt := 1341) hx hb dL_law_1336 (by decide) (fun h1336 => ?_) (fun h1336 => ?_)
      · refine lv_goto (tgt := 1435) hx hb dL_law_1341 (by decide) ?_
        have hI9 : g_I9 D σ3 _ := ⟨hC1.off ho3 (by decide), hvC3, ⟨_, y3⟩, ⟨_, (ho3 31 (by omega)).trans hO1⟩, ⟨_, (ho3 32 (by omega)).trans hOD1⟩⟩
        refine W.widen (k := cells + 12) (n := slots + 108) (by first | exact Nat.le_refl _ | (show cells + 10 ≤ cells + 12; omega)) (by first | exact Nat.le_refl _ | (show slots + 60 ≤ slots + 108; omega)) ?_
        exact kk σ3 _ _ _ _ hI9 hP hS (lv_sub hl [2, 3, 4, 5, 6, 7] rfl)
      · exact absurd rfl h1336
  · exact absurd rfl h1319

set_option maxHeartbeats 4000000 in
set_option maxRecDepth 100000 in
theorem lc_put {p : Program} {l : Launch} {e : Env} {s : State} {m : MethodId} {args : Array Value} {below : List Frame} {meth : Method} {c : Code} {H : Heap} {locs : List Loc} {cells slots : Nat} {Q : State → Prop} (hst : l.stackTraces = false) {D : va_G} (hAD : g_AD D) {σ : Nat → va_E} {Ls : Nat → g_L} (hI : g_I9 D σ Ls) (hx : p.tables.exec = Jvm.exec) (hb : c.code = cL_law) (hml : c.maxLocals = 9) (hown : s.vm.findClass RL = some m.cls) (hts : ∀ w ∈ g_WA, w.before args s = true) (hE : g_EV D s) (hZ : g_EZ (g_A D s.heap.size) s s.heap) {b L : Nat} {xs : Nat → Int32} (hX : va_X b L xs s s.heap) (hbl : b < s.heap.size) (hbA : ¬ g_A D s.heap.size b) {i : Nat} (hi : i + 5 ≤ L) (hL : L ≤ 2560) (hP : va_P D vwCl (g_W D σ) H) (hS : va_S (g_A D s.heap.size) s.heap H locs) {ls : Array Slot} (hl : lv_has ls 9 [(1, .ref (ad_ D 0)), (2, .ref (ad_ D 20)), (3, .ref (ad_ D 31)), (4, .ref (ad_ D 32)), (0, .ref b), (5, .int (nI i))]) (hcs : cells + 12 ≤ 600000) (hsl : slots + 108 ≤ 6500000)
    (kk : ∀ (σ9 : Nat → va_E) (Ls9 : Nat → g_L) (H : Heap) (locs : List Loc) (ls : Array Slot), g_I9 D σ9 Ls9 → va_P D vwCl (g_W D σ9) H → va_S (g_A D s.heap.size) s.heap H locs → lv_has ls 9 [(1, .ref (ad_ D 0)), (2, .ref (ad_ D 20)), (3, .ref (ad_ D 31)), (4, .ref (ad_ D 32)), (0, .ref b), (5, .int (nI i))] → W p l e room_1 s m args below meth c H locs (cells + 12) (slots + 108) Q (F0 m 1435 ls [])) : W p l e room_1 s m args below meth c H locs cells slots Q (F0 m 136 ls []) := by
  obtain ⟨hC, hvC, ⟨th, rs, sg, S, N, Z, R9, T9, hM, hmr⟩, ⟨f8, hO⟩, ⟨fD, hOD⟩⟩ := id hI
  refine lv_aload_n hx hb dL_law_136 rfl (lv_at hl 0 rfl) ?_
  refine lv_aload_n hx hb dL_law_137 rfl (lv_at hl 4 rfl) ?_
  refine lv_iload hx hb dL_law_138 (lv_at hl 5 rfl) ?_
  refine lv_iconst (v := nI 1) hx hb dL_law_140 (by decide) ?_
  refine lv_iadd hx hb dL_law_141 ?_
  refine g_top (y := nI (i + 1)) (nI_add i 1) ?_
  refine va_sld hx hb hX hbl hbA hS (i := nI (i + 1)) (vp_in_nI (by omega) (by omega)) dL_law_142 ?_
  refine lv_aload_n hx hb dL_law_143 rfl (lv_at hl 4 rfl) ?_
  refine lv_iload hx hb dL_law_144 (lv_at hl 5 rfl) ?_
  refine lv_iconst (v := nI 2) hx hb dL_law_146 (by decide) ?_
  refine lv_iadd hx hb dL_law_147 ?_
  refine g_top (y := nI (i + 2)) (nI_add i 2) ?_
  refine va_sld hx hb hX hbl hbA hS (i := nI (i + 2)) (vp_in_nI (by omega) (by omega)) dL_law_148 ?_
  refine lv_aload_n hx hb dL_law_149 rfl (lv_at hl 4 rfl) ?_
  refine lv_iload hx hb dL_law_150 (lv_at hl 5 rfl) ?_
  refine lv_iconst (v := nI 3) hx hb dL_law_152 (by decide) ?_
  refine lv_iadd hx hb dL_law_153 ?_
  refine g_top (y := nI (i + 3)) (nI_add i 3) ?_
  refine va_sld hx hb hX hbl hbA hS (i := nI (i + 3)) (vp_in_nI (by omega) (by omega)) dL_law_154 ?_
  refine lv_aload_n hx hb dL_law_155 rfl (lv_at hl 2 rfl) ?_
  refine g_callSH (y := yL_put) (n := 5) (As := [.ref (ad_ D 0), .int (xs (nI (i + 1)).toNatClampNeg), .int (xs (nI (i + 2)).toNatClampNeg), .int (xs (nI (i + 3)).toNatClampNeg), .ref (ad_ D 31)]) (rest := []) hx hb hml hown hts hE hZ hP hS hl.1 (m_L_put l hst D hAD σ Ls (xs (nI (i + 1)).toNatClampNeg) (xs (nI (i + 2)).toNatClampNeg) (xs (nI (i + 3)).toNatClampNeg) hC hvC f8 hO) k_H_put rfl rfl ⟨Nat.le_of_ble_eq_true rfl, Nat.le_of_ble_eq_true rfl⟩ (Nat.le_of_ble_eq_true rfl) ⟨by show cells + 10 ≤ room_1.cells; exact g_rmC (by omega), by show slots + 60 ≤ room_1.slots; exact g_rmS (by omega)⟩ dL_law_156 (fun v σ1 H locs hq hP hS => ?_)
  obtain ⟨rfl, hq1⟩ := hq
  refine W.eq (g2 := F0 m 159 ls [.int (nI (er_put Ls (xs (nI (i + 1)).toNatClampNeg) (xs (nI (i + 2)).toNatClampNeg) (xs (nI (i + 3)).toNatClampNeg)))]) rfl ?_
  obtain ⟨hk20, ⟨f9, hO1⟩, hOD1⟩ := wl_keep hO hq1
  rw [hOD] at hOD1
  have hM1 := hM.keep hk20
  refine lv_istore (lv' := [(6, .int (nI (er_put Ls (xs (nI (i + 1)).toNatClampNeg) (xs (nI (i + 2)).toNatClampNeg) (xs (nI (i + 3)).toNatClampNeg)))), (1, .ref (ad_ D 0)), (2, .ref (ad_ D 20)), (3, .ref (ad_ D 31)), (4, .ref (ad_ D 32)), (0, .ref b), (5, .int (nI i))]) hx hb dL_law_159 hl (by decide) rfl (fun ls hl => ?_)
  refine lv_aload_n hx hb dL_law_161 rfl (lv_at hl 2 rfl) ?_
  refine lv_aload_n hx hb dL_law_162 rfl (lv_at hl 5 rfl) ?_
  refine lv_iload hx hb dL_law_163 (lv_at hl 6 rfl) ?_
  refine lv_iconst (v := nI 1) hx hb dL_law_165 (by decide) ?_
  refine lv_iadd hx hb dL_law_166 ?_
  refine g_top (y := nI (i + 1)) (nI_add i 1) ?_
  refine va_sld hx hb hX hbl hbA hS (i := nI (i + 1)) (vp_in_nI (by omega) (by omega)) dL_law_167 ?_
  refine lv_aload_n hx hb dL_law_168 rfl (lv_at hl 5 rfl) ?_
  refine lv_iload hx hb dL_law_169 (lv_at hl 6 rfl) ?_
  refine lv_iconst (v := nI 2) hx hb dL_law_171 (by decide) ?_
  refine lv_iadd hx hb dL_law_172 ?_
  refine g_top (y := nI (i + 2)) (nI_add i 2) ?_
  refine va_sld hx hb hX hbl hbA hS (i := nI (i + 2)) (vp_in_nI (by omega) (by omega)) dL_law_173 ?_
  refine lv_aload_n hx hb dL_law_174 rfl (lv_at hl 5 rfl) ?_
  refine lv_iload hx hb dL_law_175 (lv_at hl 6 rfl) ?_
  refine lv_iconst (v := nI 3) hx hb dL_law_177 (by decide) ?_
  refine lv_iadd hx hb dL_law_178 ?_
  refine g_top (y := nI (i + 3)) (nI_add i 3) ?_
  refine va_sld hx hb hX hbl hbA hS (i := nI (i + 3)) (vp_in_nI (by omega) (by omega)) dL_law_179 ?_
  refine g_callV0 (y := yX3_put) (n := 3) (As := [.int (xs (nI (i + 1)).toNatClampNeg), .int (xs (nI (i + 2)).toNatClampNeg), .int (xs (nI (i + 3)).toNatClampNeg)]) (rest := []) hx hb hml hown hts hE hZ hP hS hl.1 (m_X3_put l D hAD σ1 th rs sg S N Z R9 T9 hM1 Ls (xs (nI (i + 1)).toNatClampNeg) (xs (nI (i + 2)).toNatClampNeg) (xs (nI (i + 3)).toNatClampNeg) hmr hvC) k_L_84 (ci := 3) (by decide) hM1.1 rfl rfl rfl rfl rfl ⟨rfl, rfl⟩ ⟨Nat.le_of_ble_eq_true rfl, Nat.le_of_ble_eq_true rfl⟩ (Nat.le_of_ble_eq_true rfl) ⟨by show cells + 10 ≤ room_1.cells; exact g_rmC (by omega), by show slots + 60 ≤ room_1.slots; exact g_rmS (by omega)⟩ dL_law_180 (fun v3 σ3 H locs hq hP hS => ?_)
  obtain ⟨hq3, ho3⟩ := hq
  obtain ⟨r3, rfl⟩ : ∃ r : Int32, v3 = some (.int r) := by
    rcases hq3 with ⟨-, ⟨_, _, _, hv9, _⟩⟩ | ⟨_, _, _, hv9, _⟩
    · exact ⟨_, hv9⟩
    · exact ⟨_, hv9⟩
  refine W.eq (g2 := F0 m 183 ls [.int r3]) rfl ?_
  obtain ⟨Ls3, hMM3⟩ : ∃ Ls3, g_MM D σ3 (nI (er_put Ls (xs (nI (i + 1)).toNatClampNeg) (xs (nI (i + 2)).toNatClampNeg) (xs (nI (i + 3)).toNatClampNeg))) Ls3 := by
    rcases hq3 with ⟨he9, ⟨_, _, _, _, hmm9⟩⟩ | ⟨k9, he9, -, -, hmm9⟩
    · exact ⟨_, by rw [he9]; exact hmm9⟩
    · exact ⟨_, by rw [he9]; exact hmm9⟩
  obtain ⟨rs3, sg3, S3, N3, Z3, R3, T3, hM3, hmr3⟩ := id hMM3
  refine lv_istore (lv' := [(7, .int r3), (6, .int (nI (er_put Ls (xs (nI (i + 1)).toNatClampNeg) (xs (nI (i + 2)).toNatClampNeg) (xs (nI (i + 3)).toNatClampNeg)))), (1, .ref (ad_ D 0)), (2, .ref (ad_ D 20)), (3, .ref (ad_ D 31)), (4, .ref (ad_ D 32)), (0, .ref b), (5, .int (nI i))]) hx hb dL_law_183 hl (by decide) rfl (fun ls hl => ?_)
  refine lv_aload_n hx hb dL_law_185 rfl (lv_at hl 3 rfl) ?_
  refine g_callV0 (y := yX3_thrown) (n := 0) (As := []) (rest := []) hx hb hml hown hts hE hZ hP hS hl.1 (m_X3_thrown l D hAD σ3 (nI (er_put Ls (xs (nI (i + 1)).toNatClampNeg) (xs (nI (i + 2)).toNatClampNeg) (xs (nI (i + 3)).toNatClampNeg))) rs3 sg3 S3 N3 Z3 R3 T3 hM3) k_L_85 (ci := 3) (by decide) hM3.1 rfl rfl rfl rfl rfl ⟨rfl, rfl⟩ ⟨Nat.le_of_ble_eq_true rfl, Nat.le_of_ble_eq_true rfl⟩ (Nat.le_of_ble_eq_true rfl) ⟨by show cells + 10 ≤ room_1.cells; exact g_rmC (by omega), by show slots + 60 ≤ room_1.slots; exact g_rmS (by omega)⟩ dL_law_186 (fun v4 σ4 H locs hq hP hS => ?_)
  obtain ⟨rfl, rfl⟩ := hq
  refine W.eq (g2 := F0 m 189 ls [.int (nI (er_put Ls (xs (nI (i + 1)).toNatClampNeg) (xs (nI (i + 2)).toNatClampNeg) (xs (nI (i + 3)).toNatClampNeg)))]) rfl ?_
  have hle9 : er_put Ls (xs (nI (i + 1)).toNatClampNeg) (xs (nI (i + 2)).toNatClampNeg) (xs (nI (i + 3)).toNatClampNeg) ≤ 3 := by
    unfold er_put
    (repeat' split) <;> decide
  refine lv_iload hx hb dL_law_189 (lv_at hl 1 rfl) ?_
  refine lv_icmp_eq (tgt := 196) hx hb dL_law_191 (by decide) (fun h191 => ?_) (fun h191 => ?_)
  · refine lv_iload hx hb dL_law_196 (lv_at hl 1 rfl) ?_
    refine lv_if_ne (tgt := 213) hx hb dL_law_198 (by decide) (fun h198 => ?_) (fun h198 => ?_)
    · have hb198 := g_ne (a := er_put Ls (xs (nI (i + 1)).toNatClampNeg) (xs (nI (i + 2)).toNatClampNeg) (xs (nI (i + 3)).toNatClampNeg)) (b := 0) h198 (by omega) (by omega)
      refine lv_goto (tgt := 1435) hx hb dL_law_213 (by decide) ?_
      obtain ⟨hne, hC1, ho1⟩ := hq1.resolve_left (fun z => hb198 z.1)
      obtain ⟨k9, -, -, -, hmm9⟩ := hq3.resolve_left (fun z => hne z.1)
      have hI9 : g_I9 D σ3 _ := ⟨hC1.off ho3 (by decide), hvC, ⟨_, hmm9⟩, ⟨_, (ho3 31 (by omega)).trans hO1⟩, ⟨_, (ho3 32 (by omega)).trans hOD1⟩⟩
      refine W.widen (k := cells + 12) (n := slots + 108) (by first | exact Nat.le_refl _ | (show cells + 10 ≤ cells + 12; omega)) (by first | exact Nat.le_refl _ | (show slots + 60 ≤ slots + 108; omega)) ?_
      exact kk σ3 _ _ _ _ hI9 hP hS (lv_sub hl [2, 3, 4, 5, 6, 7] rfl)
    · have hb198 := g_eq (a := er_put Ls (xs (nI (i + 1)).toNatClampNeg) (xs (nI (i + 2)).toNatClampNeg) (xs (nI (i + 3)).toNatClampNeg)) (b := 0) h198 (by omega) (by omega)
      have he0 : er_put Ls (xs (nI (i + 1)).toNatClampNeg) (xs (nI (i + 2)).toNatClampNeg) (xs (nI (i + 3)).toNatClampNeg) = 0 := hb198
      obtain ⟨-, r9, σ2, hok, hoff, hσ1⟩ := hq1.resolve_right (fun z => z.1 he0)
      obtain ⟨-, hok3⟩ := hq3.resolve_right (fun z => by obtain ⟨k9, z1, z2, -⟩ := z; omega)
      obtain ⟨vaw, x0, x1, x2, x3⟩ := hok
      obtain ⟨vbw, y0, y1, y2, y3⟩ := hok3
      have hl24 := (hvC vbw y0).2
      have hzz := zs_le (show (Ls vbw).length ≤ 48 by omega)
      have ee : vbw = vaw := g_eq (y1.symm.trans x1) (by omega) (by omega)
      subst ee
      have hr9 : r9 = r3 := Value.int.inj (Option.some.inj (x2.trans y2.symm))
      have hC1 := x3.up31 (k := 31) (e := .inl (g_cL D, 1, .inr (.inl (vp_updL f8 0 r9.toInt64)))) (by decide)
      rw [← hσ1] at hC1
      have hvC3 := by rw [y1] at he0; exact vC_put hvC y0 he0
      refine lv_aload_n hx hb dL_law_201 rfl (lv_at hl 4 rfl) ?_
      refine lv_iconst (v := nI 0) hx hb dL_law_202 (by decide) ?_
      have h31 : σ3 31 = .inl (g_cL D, 1, .inr (.inl (vp_updL f8 0 r9.toInt64))) := (ho3 31 (by omega)).trans (by rw [hσ1]; exact g_ups)
      refine g_laldO hx hb hE hP h31 (v := r9.toInt64) (by simp [vp_updL]) dL_law_203 ?_
      refine lv_iload hx hb dL_law_204 (lv_at hl 0 rfl) ?_
      refine lv_i2l (v := (r3).toInt64) hx hb dL_law_206 rfl ?_
      refine W.lcmp hx hb dL_law_207 ?_
      refine g_top (y := nI 0) (by rw [hr9]; exact lg_self) ?_
      refine lv_if_eq (tgt := 213) hx hb dL_law_208 (by decide) (fun h208 => ?_) (fun h208 => ?_)
      · refine lv_goto (tgt := 1435) hx hb dL_law_213 (by decide) ?_
        have hI9 : g_I9 D σ3 _ := ⟨hC1.off ho3 (by decide), hvC3, ⟨_, y3⟩, ⟨_, (ho3 31 (by omega)).trans hO1⟩, ⟨_, (ho3 32 (by omega)).trans hOD1⟩⟩
        refine W.widen (k := cells + 12) (n := slots + 108) (by first | exact Nat.le_refl _ | (show cells + 10 ≤ cells + 12; omega)) (by first | exact Nat.le_refl _ | (show slots + 60 ≤ slots + 108; omega)) ?_
        exact kk σ3 _ _ _ _ hI9 hP hS (lv_sub hl [2, 3, 4, 5, 6, 7] rfl)
      · exact absurd rfl h208
  · exact absurd rfl h191

set_option maxHeartbeats 4000000 in
set_option maxRecDepth 100000 in
theorem lc_take {p : Program} {l : Launch} {e : Env} {s : State} {m : MethodId} {args : Array Value} {below : List Frame} {meth : Method} {c : Code} {H : Heap} {locs : List Loc} {cells slots : Nat} {Q : State → Prop} (hst : l.stackTraces = false) {D : va_G} (hAD : g_AD D) {σ : Nat → va_E} {Ls : Nat → g_L} (hI : g_I9 D σ Ls) (hx : p.tables.exec = Jvm.exec) (hb : c.code = cL_law) (hml : c.maxLocals = 9) (hown : s.vm.findClass RL = some m.cls) (hts : ∀ w ∈ g_WA, w.before args s = true) (hE : g_EV D s) (hZ : g_EZ (g_A D s.heap.size) s s.heap) {b L : Nat} {xs : Nat → Int32} (hX : va_X b L xs s s.heap) (hbl : b < s.heap.size) (hbA : ¬ g_A D s.heap.size b) {i : Nat} (hi : i + 5 ≤ L) (hL : L ≤ 2560) (hP : va_P D vwCl (g_W D σ) H) (hS : va_S (g_A D s.heap.size) s.heap H locs) {ls : Array Slot} (hl : lv_has ls 9 [(1, .ref (ad_ D 0)), (2, .ref (ad_ D 20)), (3, .ref (ad_ D 31)), (4, .ref (ad_ D 32)), (0, .ref b), (5, .int (nI i))]) (hcs : cells + 12 ≤ 600000) (hsl : slots + 108 ≤ 6500000)
    (kk : ∀ (σ9 : Nat → va_E) (Ls9 : Nat → g_L) (H : Heap) (locs : List Loc) (ls : Array Slot), g_I9 D σ9 Ls9 → va_P D vwCl (g_W D σ9) H → va_S (g_A D s.heap.size) s.heap H locs → lv_has ls 9 [(1, .ref (ad_ D 0)), (2, .ref (ad_ D 20)), (3, .ref (ad_ D 31)), (4, .ref (ad_ D 32)), (0, .ref b), (5, .int (nI i))] → W p l e room_1 s m args below meth c H locs (cells + 12) (slots + 108) Q (F0 m 1435 ls [])) : W p l e room_1 s m args below meth c H locs cells slots Q (F0 m 216 ls []) := by
  obtain ⟨hC, hvC, ⟨th, rs, sg, S, N, Z, R9, T9, hM, hmr⟩, ⟨f8, hO⟩, ⟨fD, hOD⟩⟩ := id hI
  refine lv_aload_n hx hb dL_law_216 rfl (lv_at hl 0 rfl) ?_
  refine lv_aload_n hx hb dL_law_217 rfl (lv_at hl 4 rfl) ?_
  refine lv_iload hx hb dL_law_218 (lv_at hl 5 rfl) ?_
  refine lv_iconst (v := nI 1) hx hb dL_law_220 (by decide) ?_
  refine lv_iadd hx hb dL_law_221 ?_
  refine g_top (y := nI (i + 1)) (nI_add i 1) ?_
  refine va_sld hx hb hX hbl hbA hS (i := nI (i + 1)) (vp_in_nI (by omega) (by omega)) dL_law_222 ?_
  refine lv_aload_n hx hb dL_law_223 rfl (lv_at hl 4 rfl) ?_
  refine lv_iload hx hb dL_law_224 (lv_at hl 5 rfl) ?_
  refine lv_iconst (v := nI 2) hx hb dL_law_226 (by decide) ?_
  refine lv_iadd hx hb dL_law_227 ?_
  refine g_top (y := nI (i + 2)) (nI_add i 2) ?_
  refine va_sld hx hb hX hbl hbA hS (i := nI (i + 2)) (vp_in_nI (by omega) (by omega)) dL_law_228 ?_
  refine lv_aload_n hx hb dL_law_229 rfl (lv_at hl 2 rfl) ?_
  refine g_callSH (y := yL_take) (n := 4) (As := [.ref (ad_ D 0), .int (xs (nI (i + 1)).toNatClampNeg), .int (xs (nI (i + 2)).toNatClampNeg), .ref (ad_ D 31)]) (rest := []) hx hb hml hown hts hE hZ hP hS hl.1 (m_L_take l hst D hAD σ Ls (xs (nI (i + 1)).toNatClampNeg) (xs (nI (i + 2)).toNatClampNeg) hC hvC f8 hO) k_H_take rfl rfl ⟨Nat.le_of_ble_eq_true rfl, Nat.le_of_ble_eq_true rfl⟩ (Nat.le_of_ble_eq_true rfl) ⟨by show cells + 10 ≤ room_1.cells; exact g_rmC (by omega), by show slots + 60 ≤ room_1.slots; exact g_rmS (by omega)⟩ dL_law_230 (fun v σ1 H locs hq hP hS => ?_)
  obtain ⟨rfl, hq1⟩ := hq
  refine W.eq (g2 := F0 m 233 ls [.int (nI (er_take Ls (xs (nI (i + 1)).toNatClampNeg) (xs (nI (i + 2)).toNatClampNeg)))]) rfl ?_
  obtain ⟨hk20, ⟨f9, hO1⟩, hOD1⟩ := wl_keep hO hq1
  rw [hOD] at hOD1
  have hM1 := hM.keep hk20
  refine lv_istore (lv' := [(6, .int (nI (er_take Ls (xs (nI (i + 1)).toNatClampNeg) (xs (nI (i + 2)).toNatClampNeg)))), (1, .ref (ad_ D 0)), (2, .ref (ad_ D 20)), (3, .ref (ad_ D 31)), (4, .ref (ad_ D 32)), (0, .ref b), (5, .int (nI i))]) hx hb dL_law_233 hl (by decide) rfl (fun ls hl => ?_)
  refine lv_aload_n hx hb dL_law_235 rfl (lv_at hl 2 rfl) ?_
  refine lv_aload_n hx hb dL_law_236 rfl (lv_at hl 5 rfl) ?_
  refine lv_iload hx hb dL_law_237 (lv_at hl 6 rfl) ?_
  refine lv_iconst (v := nI 1) hx hb dL_law_239 (by decide) ?_
  refine lv_iadd hx hb dL_law_240 ?_
  refine g_top (y := nI (i + 1)) (nI_add i 1) ?_
  refine va_sld hx hb hX hbl hbA hS (i := nI (i + 1)) (vp_in_nI (by omega) (by omega)) dL_law_241 ?_
  refine lv_aload_n hx hb dL_law_242 rfl (lv_at hl 5 rfl) ?_
  refine lv_iload hx hb dL_law_243 (lv_at hl 6 rfl) ?_
  refine lv_iconst (v := nI 2) hx hb dL_law_245 (by decide) ?_
  refine lv_iadd hx hb dL_law_246 ?_
  refine g_top (y := nI (i + 2)) (nI_add i 2) ?_
  refine va_sld hx hb hX hbl hbA hS (i := nI (i + 2)) (vp_in_nI (by omega) (by omega)) dL_law_247 ?_
  refine g_callV0 (y := yX3_take) (n := 2) (As := [.int (xs (nI (i + 1)).toNatClampNeg), .int (xs (nI (i + 2)).toNatClampNeg)]) (rest := []) hx hb hml hown hts hE hZ hP hS hl.1 (m_X3_take l D hAD σ1 th rs sg S N Z R9 T9 hM1 Ls (xs (nI (i + 1)).toNatClampNeg) (xs (nI (i + 2)).toNatClampNeg) hmr hvC) k_L_92 (ci := 3) (by decide) hM1.1 rfl rfl rfl rfl rfl ⟨rfl, rfl⟩ ⟨Nat.le_of_ble_eq_true rfl, Nat.le_of_ble_eq_true rfl⟩ (Nat.le_of_ble_eq_true rfl) ⟨by show cells + 10 ≤ room_1.cells; exact g_rmC (by omega), by show slots + 60 ≤ room_1.slots; exact g_rmS (by omega)⟩ dL_law_248 (fun v3 σ3 H locs hq hP hS => ?_)
  obtain ⟨hq3, ho3⟩ := hq
  obtain ⟨r3, rfl⟩ : ∃ r : Int32, v3 = some (.int r) := by
    rcases hq3 with ⟨-, ⟨_, _, _, hv9, _⟩⟩ | ⟨_, _, _, hv9, _⟩
    · exact ⟨_, hv9⟩
    · exact ⟨_, hv9⟩
  refine W.eq (g2 := F0 m 251 ls [.int r3]) rfl ?_
  obtain ⟨Ls3, hMM3⟩ : ∃ Ls3, g_MM D σ3 (nI (er_take Ls (xs (nI (i + 1)).toNatClampNeg) (xs (nI (i + 2)).toNatClampNeg))) Ls3 := by
    rcases hq3 with ⟨he9, ⟨_, _, _, _, _, _, hmm9⟩⟩ | ⟨k9, he9, -, -, hmm9⟩
    · exact ⟨_, by rw [he9]; exact hmm9⟩
    · exact ⟨_, by rw [he9]; exact hmm9⟩
  obtain ⟨rs3, sg3, S3, N3, Z3, R3, T3, hM3, hmr3⟩ := id hMM3
  refine lv_istore (lv' := [(7, .int r3), (6, .int (nI (er_take Ls (xs (nI (i + 1)).toNatClampNeg) (xs (nI (i + 2)).toNatClampNeg)))), (1, .ref (ad_ D 0)), (2, .ref (ad_ D 20)), (3, .ref (ad_ D 31)), (4, .ref (ad_ D 32)), (0, .ref b), (5, .int (nI i))]) hx hb dL_law_251 hl (by decide) rfl (fun ls hl => ?_)
  refine lv_aload_n hx hb dL_law_253 rfl (lv_at hl 3 rfl) ?_
  refine g_callV0 (y := yX3_thrown) (n := 0) (As := []) (rest := []) hx hb hml hown hts hE hZ hP hS hl.1 (m_X3_thrown l D hAD σ3 (nI (er_take Ls (xs (nI (i + 1)).toNatClampNeg) (xs (nI (i + 2)).toNatClampNeg))) rs3 sg3 S3 N3 Z3 R3 T3 hM3) k_L_85 (ci := 3) (by decide) hM3.1 rfl rfl rfl rfl rfl ⟨rfl, rfl⟩ ⟨Nat.le_of_ble_eq_true rfl, Nat.le_of_ble_eq_true rfl⟩ (Nat.le_of_ble_eq_true rfl) ⟨by show cells + 10 ≤ room_1.cells; exact g_rmC (by omega), by show slots + 60 ≤ room_1.slots; exact g_rmS (by omega)⟩ dL_law_254 (fun v4 σ4 H locs hq hP hS => ?_)
  obtain ⟨rfl, rfl⟩ := hq
  refine W.eq (g2 := F0 m 257 ls [.int (nI (er_take Ls (xs (nI (i + 1)).toNatClampNeg) (xs (nI (i + 2)).toNatClampNeg)))]) rfl ?_
  have hle9 : er_take Ls (xs (nI (i + 1)).toNatClampNeg) (xs (nI (i + 2)).toNatClampNeg) ≤ 3 := by
    unfold er_take
    (repeat' split) <;> decide
  refine lv_iload hx hb dL_law_257 (lv_at hl 1 rfl) ?_
  refine lv_icmp_eq (tgt := 264) hx hb dL_law_259 (by decide) (fun h259 => ?_) (fun h259 => ?_)
  · refine lv_iload hx hb dL_law_264 (lv_at hl 1 rfl) ?_
    refine lv_if_ne (tgt := 281) hx hb dL_law_266 (by decide) (fun h266 => ?_) (fun h266 => ?_)
    · have hb266 := g_ne (a := er_take Ls (xs (nI (i + 1)).toNatClampNeg) (xs (nI (i + 2)).toNatClampNeg)) (b := 0) h266 (by omega) (by omega)
      refine lv_goto (tgt := 1435) hx hb dL_law_281 (by decide) ?_
      obtain ⟨hne, hC1, ho1⟩ := hq1.resolve_left (fun z => hb266 z.1)
      obtain ⟨k9, -, -, -, hmm9⟩ := hq3.resolve_left (fun z => hne z.1)
      have hI9 : g_I9 D σ3 _ := ⟨hC1.off ho3 (by decide), hvC, ⟨_, hmm9⟩, ⟨_, (ho3 31 (by omega)).trans hO1⟩, ⟨_, (ho3 32 (by omega)).trans hOD1⟩⟩
      refine W.widen (k := cells + 12) (n := slots + 108) (by first | exact Nat.le_refl _ | (show cells + 10 ≤ cells + 12; omega)) (by first | exact Nat.le_refl _ | (show slots + 60 ≤ slots + 108; omega)) ?_
      exact kk σ3 _ _ _ _ hI9 hP hS (lv_sub hl [2, 3, 4, 5, 6, 7] rfl)
    · have hb266 := g_eq (a := er_take Ls (xs (nI (i + 1)).toNatClampNeg) (xs (nI (i + 2)).toNatClampNeg)) (b := 0) h266 (by omega) (by omega)
      have he0 : er_take Ls (xs (nI (i + 1)).toNatClampNeg) (xs (nI (i + 2)).toNatClampNeg) = 0 := hb266
      obtain ⟨-, r9, σ2, hok, hoff, hσ1⟩ := hq1.resolve_right (fun z => z.1 he0)
      obtain ⟨-, hok3⟩ := hq3.resolve_right (fun z => by obtain ⟨k9, z1, z2, -⟩ := z; omega)
      obtain ⟨vaw, x0, x1, x2, x3, x4, x5⟩ := hok
      obtain ⟨vbw, y0, y1, y2, y3, y4, y5⟩ := hok3
      have hl24 := (hvC vbw y0).2
      have hzz := zs_le (show (Ls vbw).length ≤ 48 by omega)
      have ee : vbw = vaw := g_eq (y1.symm.trans x1) (by omega) (by omega)
      subst ee
      have hr9 : r9 = r3 := Value.int.inj (Option.some.inj (x2.trans y2.symm))
      have hC1 := x5.up31 (k := 31) (e := .inl (g_cL D, 1, .inr (.inl (vp_updL f8 0 r9.toInt64)))) (by decide)
      rw [← hσ1] at hC1
      have hvC3 := vC_take hvC y0 (k := rk_ (Ls vbw) (xs (nI (i + 2)).toNatClampNeg))
      refine lv_aload_n hx hb dL_law_269 rfl (lv_at hl 4 rfl) ?_
      refine lv_iconst (v := nI 0) hx hb dL_law_270 (by decide) ?_
      have h31 : σ3 31 = .inl (g_cL D, 1, .inr (.inl (vp_updL f8 0 r9.toInt64))) := (ho3 31 (by omega)).trans (by rw [hσ1]; exact g_ups)
      refine g_laldO hx hb hE hP h31 (v := r9.toInt64) (by simp [vp_updL]) dL_law_271 ?_
      refine lv_iload hx hb dL_law_272 (lv_at hl 0 rfl) ?_
      refine lv_i2l (v := (r3).toInt64) hx hb dL_law_274 rfl ?_
      refine W.lcmp hx hb dL_law_275 ?_
      refine g_top (y := nI 0) (by rw [hr9]; exact lg_self) ?_
      refine lv_if_eq (tgt := 281) hx hb dL_law_276 (by decide) (fun h276 => ?_) (fun h276 => ?_)
      · refine lv_goto (tgt := 1435) hx hb dL_law_281 (by decide) ?_
        have hI9 : g_I9 D σ3 _ := ⟨hC1.off ho3 (by decide), hvC3, ⟨_, y5⟩, ⟨_, (ho3 31 (by omega)).trans hO1⟩, ⟨_, (ho3 32 (by omega)).trans hOD1⟩⟩
        refine W.widen (k := cells + 12) (n := slots + 108) (by first | exact Nat.le_refl _ | (show cells + 10 ≤ cells + 12; omega)) (by first | exact Nat.le_refl _ | (show slots + 60 ≤ slots + 108; omega)) ?_
        exact kk σ3 _ _ _ _ hI9 hP hS (lv_sub hl [2, 3, 4, 5, 6, 7] rfl)
      · exact absurd rfl h276
  · exact absurd rfl h259

set_option maxHeartbeats 4000000 in
set_option maxRecDepth 100000 in
theorem lc_merge {p : Program} {l : Launch} {e : Env} {s : State} {m : MethodId} {args : Array Value} {below : List Frame} {meth : Method} {c : Code} {H : Heap} {locs : List Loc} {cells slots : Nat} {Q : State → Prop} (hst : l.stackTraces = false) {D : va_G} (hAD : g_AD D) {σ : Nat → va_E} {Ls : Nat → g_L} (hI : g_I9 D σ Ls) (hx : p.tables.exec = Jvm.exec) (hb : c.code = cL_law) (hml : c.maxLocals = 9) (hown : s.vm.findClass RL = some m.cls) (hts : ∀ w ∈ g_WA, w.before args s = true) (hE : g_EV D s) (hZ : g_EZ (g_A D s.heap.size) s s.heap) {b L : Nat} {xs : Nat → Int32} (hX : va_X b L xs s s.heap) (hbl : b < s.heap.size) (hbA : ¬ g_A D s.heap.size b) {i : Nat} (hi : i + 5 ≤ L) (hL : L ≤ 2560) (hP : va_P D vwCl (g_W D σ) H) (hS : va_S (g_A D s.heap.size) s.heap H locs) {ls : Array Slot} (hl : lv_has ls 9 [(1, .ref (ad_ D 0)), (2, .ref (ad_ D 20)), (3, .ref (ad_ D 31)), (4, .ref (ad_ D 32)), (0, .ref b), (5, .int (nI i))]) (hcs : cells + 12 ≤ 600000) (hsl : slots + 108 ≤ 6500000)
    (kk : ∀ (σ9 : Nat → va_E) (Ls9 : Nat → g_L) (H : Heap) (locs : List Loc) (ls : Array Slot), g_I9 D σ9 Ls9 → va_P D vwCl (g_W D σ9) H → va_S (g_A D s.heap.size) s.heap H locs → lv_has ls 9 [(1, .ref (ad_ D 0)), (2, .ref (ad_ D 20)), (3, .ref (ad_ D 31)), (4, .ref (ad_ D 32)), (0, .ref b), (5, .int (nI i))] → W p l e room_1 s m args below meth c H locs (cells + 12) (slots + 108) Q (F0 m 1435 ls [])) : W p l e room_1 s m args below meth c H locs cells slots Q (F0 m 284 ls []) := by
  obtain ⟨hC, hvC, ⟨th, rs, sg, S, N, Z, R9, T9, hM, hmr⟩, ⟨f8, hO⟩, ⟨fD, hOD⟩⟩ := id hI
  refine lv_aload_n hx hb dL_law_284 rfl (lv_at hl 0 rfl) ?_
  refine lv_aload_n hx hb dL_law_285 rfl (lv_at hl 4 rfl) ?_
  refine lv_iload hx hb dL_law_286 (lv_at hl 5 rfl) ?_
  refine lv_iconst (v := nI 1) hx hb dL_law_288 (by decide) ?_
  refine lv_iadd hx hb dL_law_289 ?_
  refine g_top (y := nI (i + 1)) (nI_add i 1) ?_
  refine va_sld hx hb hX hbl hbA hS (i := nI (i + 1)) (vp_in_nI (by omega) (by omega)) dL_law_290 ?_
  refine lv_aload_n hx hb dL_law_291 rfl (lv_at hl 4 rfl) ?_
  refine lv_iload hx hb dL_law_292 (lv_at hl 5 rfl) ?_
  refine lv_iconst (v := nI 2) hx hb dL_law_294 (by decide) ?_
  refine lv_iadd hx hb dL_law_295 ?_
  refine g_top (y := nI (i + 2)) (nI_add i 2) ?_
  refine va_sld hx hb hX hbl hbA hS (i := nI (i + 2)) (vp_in_nI (by omega) (by omega)) dL_law_296 ?_
  refine lv_aload_n hx hb dL_law_297 rfl (lv_at hl 2 rfl) ?_
  refine g_callSH (y := yL_merge) (n := 4) (As := [.ref (ad_ D 0), .int (xs (nI (i + 1)).toNatClampNeg), .int (xs (nI (i + 2)).toNatClampNeg), .ref (ad_ D 31)]) (rest := []) hx hb hml hown hts hE hZ hP hS hl.1 (m_L_merge l hst D hAD σ Ls (xs (nI (i + 1)).toNatClampNeg) (xs (nI (i + 2)).toNatClampNeg) hC hvC f8 hO) k_H_merge rfl rfl ⟨Nat.le_of_ble_eq_true rfl, Nat.le_of_ble_eq_true rfl⟩ (Nat.le_of_ble_eq_true rfl) ⟨by show cells + 10 ≤ room_1.cells; exact g_rmC (by omega), by show slots + 60 ≤ room_1.slots; exact g_rmS (by omega)⟩ dL_law_298 (fun v σ1 H locs hq hP hS => ?_)
  obtain ⟨rfl, hq1⟩ := hq
  refine W.eq (g2 := F0 m 301 ls [.int (nI (er_merge Ls (xs (nI (i + 1)).toNatClampNeg) (xs (nI (i + 2)).toNatClampNeg)))]) rfl ?_
  obtain ⟨hk20, ⟨f9, hO1⟩, hOD1⟩ := wl_keep hO hq1
  rw [hOD] at hOD1
  have hM1 := hM.keep hk20
  refine lv_istore (lv' := [(6, .int (nI (er_merge Ls (xs (nI (i + 1)).toNatClampNeg) (xs (nI (i + 2)).toNatClampNeg)))), (1, .ref (ad_ D 0)), (2, .ref (ad_ D 20)), (3, .ref (ad_ D 31)), (4, .ref (ad_ D 32)), (0, .ref b), (5, .int (nI i))]) hx hb dL_law_301 hl (by decide) rfl (fun ls hl => ?_)
  refine lv_aload_n hx hb dL_law_303 rfl (lv_at hl 2 rfl) ?_
  refine lv_aload_n hx hb dL_law_304 rfl (lv_at hl 5 rfl) ?_
  refine lv_iload hx hb dL_law_305 (lv_at hl 6 rfl) ?_
  refine lv_iconst (v := nI 1) hx hb dL_law_307 (by decide) ?_
  refine lv_iadd hx hb dL_law_308 ?_
  refine g_top (y := nI (i + 1)) (nI_add i 1) ?_
  refine va_sld hx hb hX hbl hbA hS (i := nI (i + 1)) (vp_in_nI (by omega) (by omega)) dL_law_309 ?_
  refine lv_aload_n hx hb dL_law_310 rfl (lv_at hl 5 rfl) ?_
  refine lv_iload hx hb dL_law_311 (lv_at hl 6 rfl) ?_
  refine lv_iconst (v := nI 2) hx hb dL_law_313 (by decide) ?_
  refine lv_iadd hx hb dL_law_314 ?_
  refine g_top (y := nI (i + 2)) (nI_add i 2) ?_
  refine va_sld hx hb hX hbl hbA hS (i := nI (i + 2)) (vp_in_nI (by omega) (by omega)) dL_law_315 ?_
  refine g_callV0 (y := yX3_merge) (n := 2) (As := [.int (xs (nI (i + 1)).toNatClampNeg), .int (xs (nI (i + 2)).toNatClampNeg)]) (rest := []) hx hb hml hown hts hE hZ hP hS hl.1 (m_X3_merge l D hAD σ1 th rs sg S N Z R9 T9 hM1 Ls (xs (nI (i + 1)).toNatClampNeg) (xs (nI (i + 2)).toNatClampNeg) hmr hvC) k_L_95 (ci := 3) (by decide) hM1.1 rfl rfl rfl rfl rfl ⟨rfl, rfl⟩ ⟨Nat.le_of_ble_eq_true rfl, Nat.le_of_ble_eq_true rfl⟩ (Nat.le_of_ble_eq_true rfl) ⟨by show cells + 10 ≤ room_1.cells; exact g_rmC (by omega), by show slots + 60 ≤ room_1.slots; exact g_rmS (by omega)⟩ dL_law_316 (fun v3 σ3 H locs hq hP hS => ?_)
  obtain ⟨hq3, ho3⟩ := hq
  obtain ⟨r3, rfl⟩ : ∃ r : Int32, v3 = some (.int r) := by
    rcases hq3 with ⟨-, ⟨_, _, _, _, _, _, hv9, _⟩⟩ | ⟨_, _, _, hv9, _⟩
    · exact ⟨_, hv9⟩
    · exact ⟨_, hv9⟩
  refine W.eq (g2 := F0 m 319 ls [.int r3]) rfl ?_
  obtain ⟨Ls3, hMM3⟩ : ∃ Ls3, g_MM D σ3 (nI (er_merge Ls (xs (nI (i + 1)).toNatClampNeg) (xs (nI (i + 2)).toNatClampNeg))) Ls3 := by
    rcases hq3 with ⟨he9, ⟨_, _, _, _, _, _, _, hmm9⟩⟩ | ⟨k9, he9, -, -, hmm9⟩
    · exact ⟨_, by rw [he9]; exact hmm9⟩
    · exact ⟨_, by rw [he9]; exact hmm9⟩
  obtain ⟨rs3, sg3, S3, N3, Z3, R3, T3, hM3, hmr3⟩ := id hMM3
  refine lv_istore (lv' := [(7, .int r3), (6, .int (nI (er_merge Ls (xs (nI (i + 1)).toNatClampNeg) (xs (nI (i + 2)).toNatClampNeg)))), (1, .ref (ad_ D 0)), (2, .ref (ad_ D 20)), (3, .ref (ad_ D 31)), (4, .ref (ad_ D 32)), (0, .ref b), (5, .int (nI i))]) hx hb dL_law_319 hl (by decide) rfl (fun ls hl => ?_)
  refine lv_aload_n hx hb dL_law_321 rfl (lv_at hl 3 rfl) ?_
  refine g_callV0 (y := yX3_thrown) (n := 0) (As := []) (rest := []) hx hb hml hown hts hE hZ hP hS hl.1 (m_X3_thrown l D hAD σ3 (nI (er_merge Ls (xs (nI (i + 1)).toNatClampNeg) (xs (nI (i + 2)).toNatClampNeg))) rs3 sg3 S3 N3 Z3 R3 T3 hM3) k_L_85 (ci := 3) (by decide) hM3.1 rfl rfl rfl rfl rfl ⟨rfl, rfl⟩ ⟨Nat.le_of_ble_eq_true rfl, Nat.le_of_ble_eq_true rfl⟩ (Nat.le_of_ble_eq_true rfl) ⟨by show cells + 10 ≤ room_1.cells; exact g_rmC (by omega), by show slots + 60 ≤ room_1.slots; exact g_rmS (by omega)⟩ dL_law_322 (fun v4 σ4 H locs hq hP hS => ?_)
  obtain ⟨rfl, rfl⟩ := hq
  refine W.eq (g2 := F0 m 325 ls [.int (nI (er_merge Ls (xs (nI (i + 1)).toNatClampNeg) (xs (nI (i + 2)).toNatClampNeg)))]) rfl ?_
  have hle9 : er_merge Ls (xs (nI (i + 1)).toNatClampNeg) (xs (nI (i + 2)).toNatClampNeg) ≤ 3 := by
    unfold er_merge
    (repeat' split) <;> decide
  refine lv_iload hx hb dL_law_325 (lv_at hl 1 rfl) ?_
  refine lv_icmp_eq (tgt := 332) hx hb dL_law_327 (by decide) (fun h327 => ?_) (fun h327 => ?_)
  · refine lv_iload hx hb dL_law_332 (lv_at hl 1 rfl) ?_
    refine lv_if_ne (tgt := 349) hx hb dL_law_334 (by decide) (fun h334 => ?_) (fun h334 => ?_)
    · have hb334 := g_ne (a := er_merge Ls (xs (nI (i + 1)).toNatClampNeg) (xs (nI (i + 2)).toNatClampNeg)) (b := 0) h334 (by omega) (by omega)
      refine lv_goto (tgt := 1435) hx hb dL_law_349 (by decide) ?_
      obtain ⟨hne, hC1, ho1⟩ := hq1.resolve_left (fun z => hb334 z.1)
      obtain ⟨k9, -, -, -, hmm9⟩ := hq3.resolve_left (fun z => hne z.1)
      have hI9 : g_I9 D σ3 _ := ⟨hC1.off ho3 (by decide), hvC, ⟨_, hmm9⟩, ⟨_, (ho3 31 (by omega)).trans hO1⟩, ⟨_, (ho3 32 (by omega)).trans hOD1⟩⟩
      refine W.widen (k := cells + 12) (n := slots + 108) (by first | exact Nat.le_refl _ | (show cells + 10 ≤ cells + 12; omega)) (by first | exact Nat.le_refl _ | (show slots + 60 ≤ slots + 108; omega)) ?_
      exact kk σ3 _ _ _ _ hI9 hP hS (lv_sub hl [2, 3, 4, 5, 6, 7] rfl)
    · have hb334 := g_eq (a := er_merge Ls (xs (nI (i + 1)).toNatClampNeg) (xs (nI (i + 2)).toNatClampNeg)) (b := 0) h334 (by omega) (by omega)
      have he0 : er_merge Ls (xs (nI (i + 1)).toNatClampNeg) (xs (nI (i + 2)).toNatClampNeg) = 0 := hb334
      obtain ⟨-, r9, σ2, hok, hoff, hσ1⟩ := hq1.resolve_right (fun z => z.1 he0)
      obtain ⟨-, hok3⟩ := hq3.resolve_right (fun z => by obtain ⟨k9, z1, z2, -⟩ := z; omega)
      obtain ⟨vaw, var, x0, x1, x2, x3, x4, x5⟩ := hok
      obtain ⟨vbw, vbr9, y0, y1, y2, y3, y4, y5⟩ := hok3
      have hl24 := (hvC vbw y0).2
      have hzz := zs_le (show (Ls vbw).length ≤ 48 by omega)
      have ee : vbw = vaw := g_eq (y1.symm.trans x1) (by omega) (by omega)
      subst ee
      have ee : vbr9 = var := g_eq (y3.symm.trans x3) (by omega) (by omega)
      subst ee
      have hr9 : r9 = r3 := Value.int.inj (Option.some.inj (x4.trans y4.symm))
      have hC1 := x5.up31 (k := 31) (e := .inl (g_cL D, 1, .inr (.inl (vp_updL f8 0 r9.toInt64)))) (by decide)
      rw [← hσ1] at hC1
      have hvC3 := by rw [y1, y3] at he0; exact vC_merge hvC y0 he0
      refine lv_aload_n hx hb dL_law_337 rfl (lv_at hl 4 rfl) ?_
      refine lv_iconst (v := nI 0) hx hb dL_law_338 (by decide) ?_
      have h31 : σ3 31 = .inl (g_cL D, 1, .inr (.inl (vp_updL f8 0 r9.toInt64))) := (ho3 31 (by omega)).trans (by rw [hσ1]; exact g_ups)
      refine g_laldO hx hb hE hP h31 (v := r9.toInt64) (by simp [vp_updL]) dL_law_339 ?_
      refine lv_iload hx hb dL_law_340 (lv_at hl 0 rfl) ?_
      refine lv_i2l (v := (r3).toInt64) hx hb dL_law_342 rfl ?_
      refine W.lcmp hx hb dL_law_343 ?_
      refine g_top (y := nI 0) (by rw [hr9]; exact lg_self) ?_
      refine lv_if_eq (tgt := 349) hx hb dL_law_344 (by decide) (fun h344 => ?_) (fun h344 => ?_)
      · refine lv_goto (tgt := 1435) hx hb dL_law_349 (by decide) ?_
        have hI9 : g_I9 D σ3 _ := ⟨hC1.off ho3 (by decide), hvC3, ⟨_, y5⟩, ⟨_, (ho3 31 (by omega)).trans hO1⟩, ⟨_, (ho3 32 (by omega)).trans hOD1⟩⟩
        refine W.widen (k := cells + 12) (n := slots + 108) (by first | exact Nat.le_refl _ | (show cells + 10 ≤ cells + 12; omega)) (by first | exact Nat.le_refl _ | (show slots + 60 ≤ slots + 108; omega)) ?_
        exact kk σ3 _ _ _ _ hI9 hP hS (lv_sub hl [2, 3, 4, 5, 6, 7] rfl)
      · exact absurd rfl h344
  · exact absurd rfl h327

set_option maxHeartbeats 4000000 in
set_option maxRecDepth 100000 in
theorem lc_cut {p : Program} {l : Launch} {e : Env} {s : State} {m : MethodId} {args : Array Value} {below : List Frame} {meth : Method} {c : Code} {H : Heap} {locs : List Loc} {cells slots : Nat} {Q : State → Prop} (hst : l.stackTraces = false) {D : va_G} (hAD : g_AD D) {σ : Nat → va_E} {Ls : Nat → g_L} (hI : g_I9 D σ Ls) (hx : p.tables.exec = Jvm.exec) (hb : c.code = cL_law) (hml : c.maxLocals = 9) (hown : s.vm.findClass RL = some m.cls) (hts : ∀ w ∈ g_WA, w.before args s = true) (hE : g_EV D s) (hZ : g_EZ (g_A D s.heap.size) s s.heap) {b L : Nat} {xs : Nat → Int32} (hX : va_X b L xs s s.heap) (hbl : b < s.heap.size) (hbA : ¬ g_A D s.heap.size b) {i : Nat} (hi : i + 5 ≤ L) (hL : L ≤ 2560) (hP : va_P D vwCl (g_W D σ) H) (hS : va_S (g_A D s.heap.size) s.heap H locs) {ls : Array Slot} (hl : lv_has ls 9 [(1, .ref (ad_ D 0)), (2, .ref (ad_ D 20)), (3, .ref (ad_ D 31)), (4, .ref (ad_ D 32)), (0, .ref b), (5, .int (nI i))]) (hcs : cells + 12 ≤ 600000) (hsl : slots + 108 ≤ 6500000)
    (kk : ∀ (σ9 : Nat → va_E) (Ls9 : Nat → g_L) (H : Heap) (locs : List Loc) (ls : Array Slot), g_I9 D σ9 Ls9 → va_P D vwCl (g_W D σ9) H → va_S (g_A D s.heap.size) s.heap H locs → lv_has ls 9 [(1, .ref (ad_ D 0)), (2, .ref (ad_ D 20)), (3, .ref (ad_ D 31)), (4, .ref (ad_ D 32)), (0, .ref b), (5, .int (nI i))] → W p l e room_1 s m args below meth c H locs (cells + 12) (slots + 108) Q (F0 m 1435 ls [])) : W p l e room_1 s m args below meth c H locs cells slots Q (F0 m 352 ls []) := by
  obtain ⟨hC, hvC, ⟨th, rs, sg, S, N, Z, R9, T9, hM, hmr⟩, ⟨f8, hO⟩, ⟨fD, hOD⟩⟩ := id hI
  refine lv_aload_n hx hb dL_law_352 rfl (lv_at hl 0 rfl) ?_
  refine lv_aload_n hx hb dL_law_353 rfl (lv_at hl 4 rfl) ?_
  refine lv_iload hx hb dL_law_354 (lv_at hl 5 rfl) ?_
  refine lv_iconst (v := nI 1) hx hb dL_law_356 (by decide) ?_
  refine lv_iadd hx hb dL_law_357 ?_
  refine g_top (y := nI (i + 1)) (nI_add i 1) ?_
  refine va_sld hx hb hX hbl hbA hS (i := nI (i + 1)) (vp_in_nI (by omega) (by omega)) dL_law_358 ?_
  refine lv_aload_n hx hb dL_law_359 rfl (lv_at hl 4 rfl) ?_
  refine lv_iload hx hb dL_law_360 (lv_at hl 5 rfl) ?_
  refine lv_iconst (v := nI 2) hx hb dL_law_362 (by decide) ?_
  refine lv_iadd hx hb dL_law_363 ?_
  refine g_top (y := nI (i + 2)) (nI_add i 2) ?_
  refine va_sld hx hb hX hbl hbA hS (i := nI (i + 2)) (vp_in_nI (by omega) (by omega)) dL_law_364 ?_
  refine lv_aload_n hx hb dL_law_365 rfl (lv_at hl 2 rfl) ?_
  refine g_callSH (y := yL_cut) (n := 4) (As := [.ref (ad_ D 0), .int (xs (nI (i + 1)).toNatClampNeg), .int (xs (nI (i + 2)).toNatClampNeg), .ref (ad_ D 31)]) (rest := []) hx hb hml hown hts hE hZ hP hS hl.1 (m_L_cut l hst D hAD σ Ls (xs (nI (i + 1)).toNatClampNeg) (xs (nI (i + 2)).toNatClampNeg) hC hvC f8 hO) k_H_cut rfl rfl ⟨Nat.le_of_ble_eq_true rfl, Nat.le_of_ble_eq_true rfl⟩ (Nat.le_of_ble_eq_true rfl) ⟨by show cells + 10 ≤ room_1.cells; exact g_rmC (by omega), by show slots + 60 ≤ room_1.slots; exact g_rmS (by omega)⟩ dL_law_366 (fun v σ1 H locs hq hP hS => ?_)
  obtain ⟨rfl, hq1⟩ := hq
  refine W.eq (g2 := F0 m 369 ls [.int (nI (er_cut Ls (xs (nI (i + 1)).toNatClampNeg) (xs (nI (i + 2)).toNatClampNeg)))]) rfl ?_
  obtain ⟨hk20, ⟨f9, hO1⟩, hOD1⟩ := wl_keep hO hq1
  rw [hOD] at hOD1
  have hM1 := hM.keep hk20
  refine lv_istore (lv' := [(6, .int (nI (er_cut Ls (xs (nI (i + 1)).toNatClampNeg) (xs (nI (i + 2)).toNatClampNeg)))), (1, .ref (ad_ D 0)), (2, .ref (ad_ D 20)), (3, .ref (ad_ D 31)), (4, .ref (ad_ D 32)), (0, .ref b), (5, .int (nI i))]) hx hb dL_law_369 hl (by decide) rfl (fun ls hl => ?_)
  refine lv_aload_n hx hb dL_law_371 rfl (lv_at hl 2 rfl) ?_
  refine lv_aload_n hx hb dL_law_372 rfl (lv_at hl 5 rfl) ?_
  refine lv_iload hx hb dL_law_373 (lv_at hl 6 rfl) ?_
  refine lv_iconst (v := nI 1) hx hb dL_law_375 (by decide) ?_
  refine lv_iadd hx hb dL_law_376 ?_
  refine g_top (y := nI (i + 1)) (nI_add i 1) ?_
  refine va_sld hx hb hX hbl hbA hS (i := nI (i + 1)) (vp_in_nI (by omega) (by omega)) dL_law_377 ?_
  refine lv_aload_n hx hb dL_law_378 rfl (lv_at hl 5 rfl) ?_
  refine lv_iload hx hb dL_law_379 (lv_at hl 6 rfl) ?_
  refine lv_iconst (v := nI 2) hx hb dL_law_381 (by decide) ?_
  refine lv_iadd hx hb dL_law_382 ?_
  refine g_top (y := nI (i + 2)) (nI_add i 2) ?_
  refine va_sld hx hb hX hbl hbA hS (i := nI (i + 2)) (vp_in_nI (by omega) (by omega)) dL_law_383 ?_
  refine g_callV0 (y := yX3_cut) (n := 2) (As := [.int (xs (nI (i + 1)).toNatClampNeg), .int (xs (nI (i + 2)).toNatClampNeg)]) (rest := []) hx hb hml hown hts hE hZ hP hS hl.1 (m_X3_cut l D hAD σ1 th rs sg S N Z R9 T9 hM1 Ls (xs (nI (i + 1)).toNatClampNeg) (xs (nI (i + 2)).toNatClampNeg) hmr hvC) k_L_98 (ci := 3) (by decide) hM1.1 rfl rfl rfl rfl rfl ⟨rfl, rfl⟩ ⟨Nat.le_of_ble_eq_true rfl, Nat.le_of_ble_eq_true rfl⟩ (Nat.le_of_ble_eq_true rfl) ⟨by show cells + 10 ≤ room_1.cells; exact g_rmC (by omega), by show slots + 60 ≤ room_1.slots; exact g_rmS (by omega)⟩ dL_law_384 (fun v3 σ3 H locs hq hP hS => ?_)
  obtain ⟨hq3, ho3⟩ := hq
  obtain ⟨r3, rfl⟩ : ∃ r : Int32, v3 = some (.int r) := by
    rcases hq3 with ⟨-, ⟨_, _, _, _, _, hv9, _⟩⟩ | ⟨_, _, _, hv9, _⟩
    · exact ⟨_, hv9⟩
    · exact ⟨_, hv9⟩
  refine W.eq (g2 := F0 m 387 ls [.int r3]) rfl ?_
  obtain ⟨Ls3, hMM3⟩ : ∃ Ls3, g_MM D σ3 (nI (er_cut Ls (xs (nI (i + 1)).toNatClampNeg) (xs (nI (i + 2)).toNatClampNeg))) Ls3 := by
    rcases hq3 with ⟨he9, ⟨_, _, _, _, _, _, hmm9⟩⟩ | ⟨k9, he9, -, -, hmm9⟩
    · exact ⟨_, by rw [he9]; exact hmm9⟩
    · exact ⟨_, by rw [he9]; exact hmm9⟩
  obtain ⟨rs3, sg3, S3, N3, Z3, R3, T3, hM3, hmr3⟩ := id hMM3
  refine lv_istore (lv' := [(7, .int r3), (6, .int (nI (er_cut Ls (xs (nI (i + 1)).toNatClampNeg) (xs (nI (i + 2)).toNatClampNeg)))), (1, .ref (ad_ D 0)), (2, .ref (ad_ D 20)), (3, .ref (ad_ D 31)), (4, .ref (ad_ D 32)), (0, .ref b), (5, .int (nI i))]) hx hb dL_law_387 hl (by decide) rfl (fun ls hl => ?_)
  refine lv_aload_n hx hb dL_law_389 rfl (lv_at hl 3 rfl) ?_
  refine g_callV0 (y := yX3_thrown) (n := 0) (As := []) (rest := []) hx hb hml hown hts hE hZ hP hS hl.1 (m_X3_thrown l D hAD σ3 (nI (er_cut Ls (xs (nI (i + 1)).toNatClampNeg) (xs (nI (i + 2)).toNatClampNeg))) rs3 sg3 S3 N3 Z3 R3 T3 hM3) k_L_85 (ci := 3) (by decide) hM3.1 rfl rfl rfl rfl rfl ⟨rfl, rfl⟩ ⟨Nat.le_of_ble_eq_true rfl, Nat.le_of_ble_eq_true rfl⟩ (Nat.le_of_ble_eq_true rfl) ⟨by show cells + 10 ≤ room_1.cells; exact g_rmC (by omega), by show slots + 60 ≤ room_1.slots; exact g_rmS (by omega)⟩ dL_law_390 (fun v4 σ4 H locs hq hP hS => ?_)
  obtain ⟨rfl, rfl⟩ := hq
  refine W.eq (g2 := F0 m 393 ls [.int (nI (er_cut Ls (xs (nI (i + 1)).toNatClampNeg) (xs (nI (i + 2)).toNatClampNeg)))]) rfl ?_
  have hle9 : er_cut Ls (xs (nI (i + 1)).toNatClampNeg) (xs (nI (i + 2)).toNatClampNeg) ≤ 3 := by
    unfold er_cut
    (repeat' split) <;> decide
  refine lv_iload hx hb dL_law_393 (lv_at hl 1 rfl) ?_
  refine lv_icmp_eq (tgt := 400) hx hb dL_law_395 (by decide) (fun h395 => ?_) (fun h395 => ?_)
  · refine lv_iload hx hb dL_law_400 (lv_at hl 1 rfl) ?_
    refine lv_if_ne (tgt := 417) hx hb dL_law_402 (by decide) (fun h402 => ?_) (fun h402 => ?_)
    · have hb402 := g_ne (a := er_cut Ls (xs (nI (i + 1)).toNatClampNeg) (xs (nI (i + 2)).toNatClampNeg)) (b := 0) h402 (by omega) (by omega)
      refine lv_goto (tgt := 1435) hx hb dL_law_417 (by decide) ?_
      obtain ⟨hne, hC1, ho1⟩ := hq1.resolve_left (fun z => hb402 z.1)
      obtain ⟨k9, -, -, -, hmm9⟩ := hq3.resolve_left (fun z => hne z.1)
      have hI9 : g_I9 D σ3 _ := ⟨hC1.off ho3 (by decide), hvC, ⟨_, hmm9⟩, ⟨_, (ho3 31 (by omega)).trans hO1⟩, ⟨_, (ho3 32 (by omega)).trans hOD1⟩⟩
      refine W.widen (k := cells + 12) (n := slots + 108) (by first | exact Nat.le_refl _ | (show cells + 10 ≤ cells + 12; omega)) (by first | exact Nat.le_refl _ | (show slots + 60 ≤ slots + 108; omega)) ?_
      exact kk σ3 _ _ _ _ hI9 hP hS (lv_sub hl [2, 3, 4, 5, 6, 7] rfl)
    · have hb402 := g_eq (a := er_cut Ls (xs (nI (i + 1)).toNatClampNeg) (xs (nI (i + 2)).toNatClampNeg)) (b := 0) h402 (by omega) (by omega)
      have he0 : er_cut Ls (xs (nI (i + 1)).toNatClampNeg) (xs (nI (i + 2)).toNatClampNeg) = 0 := hb402
      obtain ⟨-, r9, σ2, hok, hoff, hσ1⟩ := hq1.resolve_right (fun z => z.1 he0)
      obtain ⟨-, hok3⟩ := hq3.resolve_right (fun z => by obtain ⟨k9, z1, z2, -⟩ := z; omega)
      obtain ⟨vaw, x0, x1, x2, x3, x4, x5⟩ := hok
      obtain ⟨vbw, y0, y1, y2, y3, y4, y5⟩ := hok3
      have hl24 := (hvC vbw y0).2
      have hzz := zs_le (show (Ls vbw).length ≤ 48 by omega)
      have ee : vbw = vaw := g_eq (y1.symm.trans x1) (by omega) (by omega)
      subst ee
      have hr9 : r9 = r3 := Value.int.inj (Option.some.inj (x4.trans y4.symm))
      have hC1 := x5.up31 (k := 31) (e := .inl (g_cL D, 1, .inr (.inl (vp_updL f8 0 r9.toInt64)))) (by decide)
      rw [← hσ1] at hC1
      have hvC3 := vC_cut hvC y0 (rk_le (Ls vbw) (xs (nI (i + 2)).toNatClampNeg)) y3
      refine lv_aload_n hx hb dL_law_405 rfl (lv_at hl 4 rfl) ?_
      refine lv_iconst (v := nI 0) hx hb dL_law_406 (by decide) ?_
      have h31 : σ3 31 = .inl (g_cL D, 1, .inr (.inl (vp_updL f8 0 r9.toInt64))) := (ho3 31 (by omega)).trans (by rw [hσ1]; exact g_ups)
      refine g_laldO hx hb hE hP h31 (v := r9.toInt64) (by simp [vp_updL]) dL_law_407 ?_
      refine lv_iload hx hb dL_law_408 (lv_at hl 0 rfl) ?_
      refine lv_i2l (v := (r3).toInt64) hx hb dL_law_410 rfl ?_
      refine W.lcmp hx hb dL_law_411 ?_
      refine g_top (y := nI 0) (by rw [hr9]; exact lg_self) ?_
      refine lv_if_eq (tgt := 417) hx hb dL_law_412 (by decide) (fun h412 => ?_) (fun h412 => ?_)
      · refine lv_goto (tgt := 1435) hx hb dL_law_417 (by decide) ?_
        have hI9 : g_I9 D σ3 _ := ⟨hC1.off ho3 (by decide), hvC3, ⟨_, y5⟩, ⟨_, (ho3 31 (by omega)).trans hO1⟩, ⟨_, (ho3 32 (by omega)).trans hOD1⟩⟩
        refine W.widen (k := cells + 12) (n := slots + 108) (by first | exact Nat.le_refl _ | (show cells + 10 ≤ cells + 12; omega)) (by first | exact Nat.le_refl _ | (show slots + 60 ≤ slots + 108; omega)) ?_
        exact kk σ3 _ _ _ _ hI9 hP hS (lv_sub hl [2, 3, 4, 5, 6, 7] rfl)
      · exact absurd rfl h412
  · exact absurd rfl h395

set_option maxHeartbeats 4000000 in
set_option maxRecDepth 100000 in
theorem lc_turn {p : Program} {l : Launch} {e : Env} {s : State} {m : MethodId} {args : Array Value} {below : List Frame} {meth : Method} {c : Code} {H : Heap} {locs : List Loc} {cells slots : Nat} {Q : State → Prop} (hst : l.stackTraces = false) {D : va_G} (hAD : g_AD D) {σ : Nat → va_E} {Ls : Nat → g_L} (hI : g_I9 D σ Ls) (hx : p.tables.exec = Jvm.exec) (hb : c.code = cL_law) (hml : c.maxLocals = 9) (hown : s.vm.findClass RL = some m.cls) (hts : ∀ w ∈ g_WA, w.before args s = true) (hE : g_EV D s) (hZ : g_EZ (g_A D s.heap.size) s s.heap) {b L : Nat} {xs : Nat → Int32} (hX : va_X b L xs s s.heap) (hbl : b < s.heap.size) (hbA : ¬ g_A D s.heap.size b) {i : Nat} (hi : i + 5 ≤ L) (hL : L ≤ 2560) (hP : va_P D vwCl (g_W D σ) H) (hS : va_S (g_A D s.heap.size) s.heap H locs) {ls : Array Slot} (hl : lv_has ls 9 [(1, .ref (ad_ D 0)), (2, .ref (ad_ D 20)), (3, .ref (ad_ D 31)), (4, .ref (ad_ D 32)), (0, .ref b), (5, .int (nI i))]) (hcs : cells + 12 ≤ 600000) (hsl : slots + 108 ≤ 6500000)
    (kk : ∀ (σ9 : Nat → va_E) (Ls9 : Nat → g_L) (H : Heap) (locs : List Loc) (ls : Array Slot), g_I9 D σ9 Ls9 → va_P D vwCl (g_W D σ9) H → va_S (g_A D s.heap.size) s.heap H locs → lv_has ls 9 [(1, .ref (ad_ D 0)), (2, .ref (ad_ D 20)), (3, .ref (ad_ D 31)), (4, .ref (ad_ D 32)), (0, .ref b), (5, .int (nI i))] → W p l e room_1 s m args below meth c H locs (cells + 12) (slots + 108) Q (F0 m 1435 ls [])) : W p l e room_1 s m args below meth c H locs cells slots Q (F0 m 420 ls []) := by
  obtain ⟨hC, hvC, ⟨th, rs, sg, S, N, Z, R9, T9, hM, hmr⟩, ⟨f8, hO⟩, ⟨fD, hOD⟩⟩ := id hI
  refine lv_aload_n hx hb dL_law_420 rfl (lv_at hl 0 rfl) ?_
  refine lv_aload_n hx hb dL_law_421 rfl (lv_at hl 4 rfl) ?_
  refine lv_iload hx hb dL_law_422 (lv_at hl 5 rfl) ?_
  refine lv_iconst (v := nI 1) hx hb dL_law_424 (by decide) ?_
  refine lv_iadd hx hb dL_law_425 ?_
  refine g_top (y := nI (i + 1)) (nI_add i 1) ?_
  refine va_sld hx hb hX hbl hbA hS (i := nI (i + 1)) (vp_in_nI (by omega) (by omega)) dL_law_426 ?_
  refine lv_aload_n hx hb dL_law_427 rfl (lv_at hl 4 rfl) ?_
  refine lv_iload hx hb dL_law_428 (lv_at hl 5 rfl) ?_
  refine lv_iconst (v := nI 2) hx hb dL_law_430 (by decide) ?_
  refine lv_iadd hx hb dL_law_431 ?_
  refine g_top (y := nI (i + 2)) (nI_add i 2) ?_
  refine va_sld hx hb hX hbl hbA hS (i := nI (i + 2)) (vp_in_nI (by omega) (by omega)) dL_law_432 ?_
  refine lv_aload_n hx hb dL_law_433 rfl (lv_at hl 2 rfl) ?_
  refine g_callSH (y := yL_turn) (n := 4) (As := [.ref (ad_ D 0), .int (xs (nI (i + 1)).toNatClampNeg), .int (xs (nI (i + 2)).toNatClampNeg), .ref (ad_ D 31)]) (rest := []) hx hb hml hown hts hE hZ hP hS hl.1 (m_L_turn l hst D hAD σ Ls (xs (nI (i + 1)).toNatClampNeg) (xs (nI (i + 2)).toNatClampNeg) hC hvC f8 hO) k_H_turn rfl rfl ⟨Nat.le_of_ble_eq_true rfl, Nat.le_of_ble_eq_true rfl⟩ (Nat.le_of_ble_eq_true rfl) ⟨by show cells + 10 ≤ room_1.cells; exact g_rmC (by omega), by show slots + 60 ≤ room_1.slots; exact g_rmS (by omega)⟩ dL_law_434 (fun v σ1 H locs hq hP hS => ?_)
  obtain ⟨rfl, hq1⟩ := hq
  refine W.eq (g2 := F0 m 437 ls [.int (nI (er_turn Ls (xs (nI (i + 1)).toNatClampNeg) (xs (nI (i + 2)).toNatClampNeg)))]) rfl ?_
  obtain ⟨hk20, ⟨f9, hO1⟩, hOD1⟩ := wl_keep hO hq1
  rw [hOD] at hOD1
  have hM1 := hM.keep hk20
  refine lv_istore (lv' := [(6, .int (nI (er_turn Ls (xs (nI (i + 1)).toNatClampNeg) (xs (nI (i + 2)).toNatClampNeg)))), (1, .ref (ad_ D 0)), (2, .ref (ad_ D 20)), (3, .ref (ad_ D 31)), (4, .ref (ad_ D 32)), (0, .ref b), (5, .int (nI i))]) hx hb dL_law_437 hl (by decide) rfl (fun ls hl => ?_)
  refine lv_aload_n hx hb dL_law_439 rfl (lv_at hl 2 rfl) ?_
  refine lv_aload_n hx hb dL_law_440 rfl (lv_at hl 5 rfl) ?_
  refine lv_iload hx hb dL_law_441 (lv_at hl 6 rfl) ?_
  refine lv_iconst (v := nI 1) hx hb dL_law_443 (by decide) ?_
  refine lv_iadd hx hb dL_law_444 ?_
  refine g_top (y := nI (i + 1)) (nI_add i 1) ?_
  refine va_sld hx hb hX hbl hbA hS (i := nI (i + 1)) (vp_in_nI (by omega) (by omega)) dL_law_445 ?_
  refine lv_aload_n hx hb dL_law_446 rfl (lv_at hl 5 rfl) ?_
  refine lv_iload hx hb dL_law_447 (lv_at hl 6 rfl) ?_
  refine lv_iconst (v := nI 2) hx hb dL_law_449 (by decide) ?_
  refine lv_iadd hx hb dL_law_450 ?_
  refine g_top (y := nI (i + 2)) (nI_add i 2) ?_
  refine va_sld hx hb hX hbl hbA hS (i := nI (i + 2)) (vp_in_nI (by omega) (by omega)) dL_law_451 ?_
  refine g_callV (y := yX3_turn) (n := 2) (As := [.int (xs (nI (i + 1)).toNatClampNeg), .int (xs (nI (i + 2)).toNatClampNeg)]) (rest := []) hx hb hml hown hts hE hZ hP hS hl.1 (m_X3_turn l D hAD σ1 th rs sg S N Z R9 T9 hM1 Ls (xs (nI (i + 1)).toNatClampNeg) (xs (nI (i + 2)).toNatClampNeg) hmr hvC) k_L_101 (ci := 3) (by decide) hM1.1 rfl rfl rfl rfl rfl ⟨Nat.le_of_ble_eq_true rfl, Nat.le_of_ble_eq_true rfl⟩ (Nat.le_of_ble_eq_true rfl) ⟨by show cells + 10 + 2 ≤ room_1.cells; exact g_rmC (by omega), by show slots + 60 + 48 ≤ room_1.slots; exact g_rmS (by omega)⟩ dL_law_452 (fun v3 σ3 H locs hq hP hS => ?_)
  obtain ⟨hq3, ho3⟩ := hq
  obtain ⟨r3, rfl⟩ : ∃ r : Int32, v3 = some (.int r) := by
    rcases hq3 with ⟨-, ⟨_, _, _, _, _, hv9, _⟩⟩ | ⟨_, _, _, hv9, _⟩
    · exact ⟨_, hv9⟩
    · exact ⟨_, hv9⟩
  refine W.eq (g2 := F0 m 455 ls [.int r3]) rfl ?_
  obtain ⟨Ls3, hMM3⟩ : ∃ Ls3, g_MM D σ3 (nI (er_turn Ls (xs (nI (i + 1)).toNatClampNeg) (xs (nI (i + 2)).toNatClampNeg))) Ls3 := by
    rcases hq3 with ⟨he9, ⟨_, _, _, _, _, _, hmm9⟩⟩ | ⟨k9, he9, -, -, hmm9⟩
    · exact ⟨_, by rw [he9]; exact hmm9⟩
    · exact ⟨_, by rw [he9]; exact hmm9⟩
  obtain ⟨rs3, sg3, S3, N3, Z3, R3, T3, hM3, hmr3⟩ := id hMM3
  refine lv_istore (lv' := [(7, .int r3), (6, .int (nI (er_turn Ls (xs (nI (i + 1)).toNatClampNeg) (xs (nI (i + 2)).toNatClampNeg)))), (1, .ref (ad_ D 0)), (2, .ref (ad_ D 20)), (3, .ref (ad_ D 31)), (4, .ref (ad_ D 32)), (0, .ref b), (5, .int (nI i))]) hx hb dL_law_455 hl (by decide) rfl (fun ls hl => ?_)
  refine lv_aload_n hx hb dL_law_457 rfl (lv_at hl 3 rfl) ?_
  refine g_callV0 (y := yX3_thrown) (n := 0) (As := []) (rest := []) hx hb hml hown hts hE hZ hP hS hl.1 (m_X3_thrown l D hAD σ3 (nI (er_turn Ls (xs (nI (i + 1)).toNatClampNeg) (xs (nI (i + 2)).toNatClampNeg))) rs3 sg3 S3 N3 Z3 R3 T3 hM3) k_L_85 (ci := 3) (by decide) hM3.1 rfl rfl rfl rfl rfl ⟨rfl, rfl⟩ ⟨Nat.le_of_ble_eq_true rfl, Nat.le_of_ble_eq_true rfl⟩ (Nat.le_of_ble_eq_true rfl) ⟨by show cells + 12 ≤ room_1.cells; exact g_rmC (by omega), by show slots + 108 ≤ room_1.slots; exact g_rmS (by omega)⟩ dL_law_458 (fun v4 σ4 H locs hq hP hS => ?_)
  obtain ⟨rfl, rfl⟩ := hq
  refine W.eq (g2 := F0 m 461 ls [.int (nI (er_turn Ls (xs (nI (i + 1)).toNatClampNeg) (xs (nI (i + 2)).toNatClampNeg)))]) rfl ?_
  have hle9 : er_turn Ls (xs (nI (i + 1)).toNatClampNeg) (xs (nI (i + 2)).toNatClampNeg) ≤ 3 := by
    unfold er_turn
    (repeat' split) <;> decide
  refine lv_iload hx hb dL_law_461 (lv_at hl 1 rfl) ?_
  refine lv_icmp_eq (tgt := 468) hx hb dL_law_463 (by decide) (fun h463 => ?_) (fun h463 => ?_)
  · refine lv_iload hx hb dL_law_468 (lv_at hl 1 rfl) ?_
    refine lv_if_ne (tgt := 485) hx hb dL_law_470 (by decide) (fun h470 => ?_) (fun h470 => ?_)
    · have hb470 := g_ne (a := er_turn Ls (xs (nI (i + 1)).toNatClampNeg) (xs (nI (i + 2)).toNatClampNeg)) (b := 0) h470 (by omega) (by omega)
      refine lv_goto (tgt := 1435) hx hb dL_law_485 (by decide) ?_
      obtain ⟨hne, hC1, ho1⟩ := hq1.resolve_left (fun z => hb470 z.1)
      obtain ⟨k9, -, -, -, hmm9⟩ := hq3.resolve_left (fun z => hne z.1)
      have hI9 : g_I9 D σ3 _ := ⟨hC1.off ho3 (by decide), hvC, ⟨_, hmm9⟩, ⟨_, (ho3 31 (by omega)).trans hO1⟩, ⟨_, (ho3 32 (by omega)).trans hOD1⟩⟩
      refine W.widen (k := cells + 12) (n := slots + 108) (by first | exact Nat.le_refl _ | (show cells + 10 ≤ cells + 12; omega)) (by first | exact Nat.le_refl _ | (show slots + 60 ≤ slots + 108; omega)) ?_
      exact kk σ3 _ _ _ _ hI9 hP hS (lv_sub hl [2, 3, 4, 5, 6, 7] rfl)
    · have hb470 := g_eq (a := er_turn Ls (xs (nI (i + 1)).toNatClampNeg) (xs (nI (i + 2)).toNatClampNeg)) (b := 0) h470 (by omega) (by omega)
      have he0 : er_turn Ls (xs (nI (i + 1)).toNatClampNeg) (xs (nI (i + 2)).toNatClampNeg) = 0 := hb470
      obtain ⟨-, r9, σ2, hok, hoff, hσ1⟩ := hq1.resolve_right (fun z => z.1 he0)
      obtain ⟨-, hok3⟩ := hq3.resolve_right (fun z => by obtain ⟨k9, z1, z2, -⟩ := z; omega)
      obtain ⟨vaw, x0, x1, x2, x3, x4, x5⟩ := hok
      obtain ⟨vbw, y0, y1, y2, y3, y4, y5⟩ := hok3
      have hl24 := (hvC vbw y0).2
      have hzz := zs_le (show (Ls vbw).length ≤ 48 by omega)
      have ee : vbw = vaw := g_eq (y1.symm.trans x1) (by omega) (by omega)
      subst ee
      have hr9 : r9 = r3 := Value.int.inj (Option.some.inj (x4.trans y4.symm))
      have hC1 := x5.up31 (k := 31) (e := .inl (g_cL D, 1, .inr (.inl (vp_updL f8 0 r9.toInt64)))) (by decide)
      rw [← hσ1] at hC1
      have hvC3 := vC_turn hvC y0 y2
      refine lv_aload_n hx hb dL_law_473 rfl (lv_at hl 4 rfl) ?_
      refine lv_iconst (v := nI 0) hx hb dL_law_474 (by decide) ?_
      have h31 : σ3 31 = .inl (g_cL D, 1, .inr (.inl (vp_updL f8 0 r9.toInt64))) := (ho3 31 (by omega)).trans (by rw [hσ1]; exact g_ups)
      refine g_laldO hx hb hE hP h31 (v := r9.toInt64) (by simp [vp_updL]) dL_law_475 ?_
      refine lv_iload hx hb dL_law_476 (lv_at hl 0 rfl) ?_
      refine lv_i2l (v := (r3).toInt64) hx hb dL_law_478 rfl ?_
      refine W.lcmp hx hb dL_law_479 ?_
      refine g_top (y := nI 0) (by rw [hr9]; exact lg_self) ?_
      refine lv_if_eq (tgt := 485) hx hb dL_law_480 (by decide) (fun h480 => ?_) (fun h480 => ?_)
      · refine lv_goto (tgt := 1435) hx hb dL_law_485 (by decide) ?_
        have hI9 : g_I9 D σ3 _ := ⟨hC1.off ho3 (by decide), hvC3, ⟨_, y5⟩, ⟨_, (ho3 31 (by omega)).trans hO1⟩, ⟨_, (ho3 32 (by omega)).trans hOD1⟩⟩
        refine W.widen (k := cells + 12) (n := slots + 108) (by first | exact Nat.le_refl _ | (show cells + 10 ≤ cells + 12; omega)) (by first | exact Nat.le_refl _ | (show slots + 60 ≤ slots + 108; omega)) ?_
        exact kk σ3 _ _ _ _ hI9 hP hS (lv_sub hl [2, 3, 4, 5, 6, 7] rfl)
      · exact absurd rfl h480
  · exact absurd rfl h463

set_option maxHeartbeats 4000000 in
set_option maxRecDepth 100000 in
theorem lc_step {p : Program} {l : Launch} {e : Env} {s : State} {m : MethodId} {args : Array Value} {below : List Frame} {meth : Method} {c : Code} {H : Heap} {locs : List Loc} {cells slots : Nat} {Q : State → Prop} (hst : l.stackTraces = false) {D : va_G} (hAD : g_AD D) {σ : Nat → va_E} {Ls : Nat → g_L} (hI : g_I9 D σ Ls) (hx : p.tables.exec = Jvm.exec) (hb : c.code = cL_law) (hml : c.maxLocals = 9) (hown : s.vm.findClass RL = some m.cls) (hts : ∀ w ∈ g_WA, w.before args s = true) (hE : g_EV D s) (hZ : g_EZ (g_A D s.heap.size) s s.heap) {b L : Nat} {xs : Nat → Int32} (hX : va_X b L xs s s.heap) (hbl : b < s.heap.size) (hbA : ¬ g_A D s.heap.size b) {i : Nat} (hi : i + 5 ≤ L) (hL : L ≤ 2560) (hP : va_P D vwCl (g_W D σ) H) (hS : va_S (g_A D s.heap.size) s.heap H locs) {ls : Array Slot} (hl : lv_has ls 9 [(1, .ref (ad_ D 0)), (2, .ref (ad_ D 20)), (3, .ref (ad_ D 31)), (4, .ref (ad_ D 32)), (0, .ref b), (5, .int (nI i))]) (hcs : cells + 12 ≤ 600000) (hsl : slots + 108 ≤ 6500000)
    (kk : ∀ (σ9 : Nat → va_E) (Ls9 : Nat → g_L) (H : Heap) (locs : List Loc) (ls : Array Slot), g_I9 D σ9 Ls9 → va_P D vwCl (g_W D σ9) H → va_S (g_A D s.heap.size) s.heap H locs → lv_has ls 9 [(1, .ref (ad_ D 0)), (2, .ref (ad_ D 20)), (3, .ref (ad_ D 31)), (4, .ref (ad_ D 32)), (0, .ref b), (5, .int (nI i))] → W p l e room_1 s m args below meth c H locs (cells + 12) (slots + 108) Q (F0 m 1435 ls [])) : W p l e room_1 s m args below meth c H locs cells slots Q (F0 m 784 ls []) := by
  obtain ⟨hC, hvC, ⟨th, rs, sg, S, N, Z, R9, T9, hM, hmr⟩, ⟨f8, hO⟩, ⟨fD, hOD⟩⟩ := id hI
  refine lv_aload_n hx hb dL_law_784 rfl (lv_at hl 0 rfl) ?_
  refine lv_aload_n hx hb dL_law_785 rfl (lv_at hl 4 rfl) ?_
  refine lv_iload hx hb dL_law_786 (lv_at hl 5 rfl) ?_
  refine lv_iconst (v := nI 1) hx hb dL_law_788 (by decide) ?_
  refine lv_iadd hx hb dL_law_789 ?_
  refine g_top (y := nI (i + 1)) (nI_add i 1) ?_
  refine va_sld hx hb hX hbl hbA hS (i := nI (i + 1)) (vp_in_nI (by omega) (by omega)) dL_law_790 ?_
  refine lv_aload_n hx hb dL_law_791 rfl (lv_at hl 4 rfl) ?_
  refine lv_iload hx hb dL_law_792 (lv_at hl 5 rfl) ?_
  refine lv_iconst (v := nI 2) hx hb dL_law_794 (by decide) ?_
  refine lv_iadd hx hb dL_law_795 ?_
  refine g_top (y := nI (i + 2)) (nI_add i 2) ?_
  refine va_sld hx hb hX hbl hbA hS (i := nI (i + 2)) (vp_in_nI (by omega) (by omega)) dL_law_796 ?_
  refine lv_aload_n hx hb dL_law_797 rfl (lv_at hl 4 rfl) ?_
  refine lv_iload hx hb dL_law_798 (lv_at hl 5 rfl) ?_
  refine lv_iconst (v := nI 3) hx hb dL_law_800 (by decide) ?_
  refine lv_iadd hx hb dL_law_801 ?_
  refine g_top (y := nI (i + 3)) (nI_add i 3) ?_
  refine va_sld hx hb hX hbl hbA hS (i := nI (i + 3)) (vp_in_nI (by omega) (by omega)) dL_law_802 ?_
  refine lv_if_eq (tgt := 810) hx hb dL_law_803 (by decide) (fun h803 => ?_) (fun h803 => ?_)
  · refine lv_iconst (v := nI 0) hx hb dL_law_810 (by decide) ?_
    refine lv_aload_n hx hb dL_law_811 rfl (lv_at hl 2 rfl) ?_
    refine g_callSH (y := yL_step) (n := 5) (As := [.ref (ad_ D 0), .int (xs (nI (i + 1)).toNatClampNeg), .int (xs (nI (i + 2)).toNatClampNeg), .int (nI 0), .ref (ad_ D 31)]) (rest := []) hx hb hml hown hts hE hZ hP hS hl.1 (m_L_step l hst D hAD σ Ls (xs (nI (i + 1)).toNatClampNeg) (xs (nI (i + 2)).toNatClampNeg) (nI 0) hC hvC f8 hO) k_H_step rfl rfl ⟨Nat.le_of_ble_eq_true rfl, Nat.le_of_ble_eq_true rfl⟩ (Nat.le_of_ble_eq_true rfl) ⟨by show cells + 10 ≤ room_1.cells; exact g_rmC (by omega), by show slots + 60 ≤ room_1.slots; exact g_rmS (by omega)⟩ dL_law_812 (fun v σ1 H locs hq hP hS => ?_)
    obtain ⟨rfl, hq1⟩ := hq
    refine W.eq (g2 := F0 m 815 ls [.int (nI (er_miles (xs (nI (i + 1)).toNatClampNeg) (xs (nI (i + 2)).toNatClampNeg)))]) rfl ?_
    obtain ⟨hk20, ⟨f9, hO1⟩, hOD1⟩ := wl_keep hO hq1
    rw [hOD] at hOD1
    have hM1 := hM.keep hk20
    refine lv_istore (lv' := [(6, .int (nI (er_miles (xs (nI (i + 1)).toNatClampNeg) (xs (nI (i + 2)).toNatClampNeg)))), (1, .ref (ad_ D 0)), (2, .ref (ad_ D 20)), (3, .ref (ad_ D 31)), (4, .ref (ad_ D 32)), (0, .ref b), (5, .int (nI i))]) hx hb dL_law_815 hl (by decide) rfl (fun ls hl => ?_)
    refine lv_aload_n hx hb dL_law_817 rfl (lv_at hl 2 rfl) ?_
    refine lv_aload_n hx hb dL_law_818 rfl (lv_at hl 5 rfl) ?_
    refine lv_iload hx hb dL_law_819 (lv_at hl 6 rfl) ?_
    refine lv_iconst (v := nI 1) hx hb dL_law_821 (by decide) ?_
    refine lv_iadd hx hb dL_law_822 ?_
    refine g_top (y := nI (i + 1)) (nI_add i 1) ?_
    refine va_sld hx hb hX hbl hbA hS (i := nI (i + 1)) (vp_in_nI (by omega) (by omega)) dL_law_823 ?_
    refine lv_aload_n hx hb dL_law_824 rfl (lv_at hl 5 rfl) ?_
    refine lv_iload hx hb dL_law_825 (lv_at hl 6 rfl) ?_
    refine lv_iconst (v := nI 2) hx hb dL_law_827 (by decide) ?_
    refine lv_iadd hx hb dL_law_828 ?_
    refine g_top (y := nI (i + 2)) (nI_add i 2) ?_
    refine va_sld hx hb hX hbl hbA hS (i := nI (i + 2)) (vp_in_nI (by omega) (by omega)) dL_law_829 ?_
    refine lv_aload_n hx hb dL_law_830 rfl (lv_at hl 5 rfl) ?_
    refine lv_iload hx hb dL_law_831 (lv_at hl 6 rfl) ?_
    refine lv_iconst (v := nI 3) hx hb dL_law_833 (by decide) ?_
    refine lv_iadd hx hb dL_law_834 ?_
    refine g_top (y := nI (i + 3)) (nI_add i 3) ?_
    refine va_sld hx hb hX hbl hbA hS (i := nI (i + 3)) (vp_in_nI (by omega) (by omega)) dL_law_835 ?_
    refine lv_if_eq (tgt := 843) hx hb dL_law_836 (by decide) (fun h836 => ?_) (fun h836 => ?_)
    · refine lv_iconst (v := nI 0) hx hb dL_law_843 (by decide) ?_
      refine g_callV0 (y := yX3_step) (n := 3) (As := [.int (xs (nI (i + 1)).toNatClampNeg), .int (xs (nI (i + 2)).toNatClampNeg), .int (nI 0)]) (rest := []) hx hb hml hown hts hE hZ hP hS hl.1 (m_X3_step l D hAD σ1 th rs sg S N Z R9 T9 hM1 Ls (xs (nI (i + 1)).toNatClampNeg) (xs (nI (i + 2)).toNatClampNeg) (nI 0) hmr hvC) k_L_117 (ci := 3) (by decide) hM1.1 rfl rfl rfl rfl rfl ⟨rfl, rfl⟩ ⟨Nat.le_of_ble_eq_true rfl, Nat.le_of_ble_eq_true rfl⟩ (Nat.le_of_ble_eq_true rfl) ⟨by show cells + 10 ≤ room_1.cells; exact g_rmC (by omega), by show slots + 60 ≤ room_1.slots; exact g_rmS (by omega)⟩ dL_law_844 (fun v3 σ3 H locs hq hP hS => ?_)
      obtain ⟨hq3, ho3⟩ := hq
      obtain ⟨r3, rfl⟩ : ∃ r : Int32, v3 = some (.int r) := by
        rcases hq3 with ⟨-, ⟨_, _, _, _, hv9, _⟩⟩ | ⟨_, _, _, hv9, _⟩
        · exact ⟨_, hv9⟩
        · exact ⟨_, hv9⟩
      refine W.eq (g2 := F0 m 847 ls [.int r3]) rfl ?_
      obtain ⟨Ls3, hMM3⟩ : ∃ Ls3, g_MM D σ3 (nI (er_miles (xs (nI (i + 1)).toNatClampNeg) (xs (nI (i + 2)).toNatClampNeg))) Ls3 := by
        rcases hq3 with ⟨he9, ⟨_, _, _, _, _, hmm9⟩⟩ | ⟨k9, he9, -, -, hmm9⟩
        · exact ⟨_, by rw [he9]; exact hmm9⟩
        · exact ⟨_, by rw [he9]; exact hmm9⟩
      obtain ⟨rs3, sg3, S3, N3, Z3, R3, T3, hM3, hmr3⟩ := id hMM3
      refine lv_istore (lv' := [(7, .int r3), (6, .int (nI (er_miles (xs (nI (i + 1)).toNatClampNeg) (xs (nI (i + 2)).toNatClampNeg)))), (1, .ref (ad_ D 0)), (2, .ref (ad_ D 20)), (3, .ref (ad_ D 31)), (4, .ref (ad_ D 32)), (0, .ref b), (5, .int (nI i))]) hx hb dL_law_847 hl (by decide) rfl (fun ls hl => ?_)
      refine lv_aload_n hx hb dL_law_849 rfl (lv_at hl 3 rfl) ?_
      refine g_callV0 (y := yX3_thrown) (n := 0) (As := []) (rest := []) hx hb hml hown hts hE hZ hP hS hl.1 (m_X3_thrown l D hAD σ3 (nI (er_miles (xs (nI (i + 1)).toNatClampNeg) (xs (nI (i + 2)).toNatClampNeg))) rs3 sg3 S3 N3 Z3 R3 T3 hM3) k_L_85 (ci := 3) (by decide) hM3.1 rfl rfl rfl rfl rfl ⟨rfl, rfl⟩ ⟨Nat.le_of_ble_eq_true rfl, Nat.le_of_ble_eq_true rfl⟩ (Nat.le_of_ble_eq_true rfl) ⟨by show cells + 10 ≤ room_1.cells; exact g_rmC (by omega), by show slots + 60 ≤ room_1.slots; exact g_rmS (by omega)⟩ dL_law_850 (fun v4 σ4 H locs hq hP hS => ?_)
      obtain ⟨rfl, rfl⟩ := hq
      refine W.eq (g2 := F0 m 853 ls [.int (nI (er_miles (xs (nI (i + 1)).toNatClampNeg) (xs (nI (i + 2)).toNatClampNeg)))]) rfl ?_
      have hle9 : er_miles (xs (nI (i + 1)).toNatClampNeg) (xs (nI (i + 2)).toNatClampNeg) ≤ 3 := by
        unfold er_miles
        (repeat' split) <;> decide
      refine lv_iload hx hb dL_law_853 (lv_at hl 1 rfl) ?_
      refine lv_icmp_eq (tgt := 860) hx hb dL_law_855 (by decide) (fun h855 => ?_) (fun h855 => ?_)
      · refine lv_iload hx hb dL_law_860 (lv_at hl 1 rfl) ?_
        refine lv_if_ne (tgt := 877) hx hb dL_law_862 (by decide) (fun h862 => ?_) (fun h862 => ?_)
        · have hb862 := g_ne (a := er_miles (xs (nI (i + 1)).toNatClampNeg) (xs (nI (i + 2)).toNatClampNeg)) (b := 0) h862 (by omega) (by omega)
          refine lv_goto (tgt := 1435) hx hb dL_law_877 (by decide) ?_
          obtain ⟨hne, hC1, ho1⟩ := hq1.resolve_left (fun z => hb862 z.1)
          obtain ⟨k9, -, -, -, hmm9⟩ := hq3.resolve_left (fun z => hne z.1)
          have hI9 : g_I9 D σ3 _ := ⟨hC1.off ho3 (by decide), hvC, ⟨_, hmm9⟩, ⟨_, (ho3 31 (by omega)).trans hO1⟩, ⟨_, (ho3 32 (by omega)).trans hOD1⟩⟩
          refine W.widen (k := cells + 12) (n := slots + 108) (by first | exact Nat.le_refl _ | (show cells + 10 ≤ cells + 12; omega)) (by first | exact Nat.le_refl _ | (show slots + 60 ≤ slots + 108; omega)) ?_
          exact kk σ3 _ _ _ _ hI9 hP hS (lv_sub hl [2, 3, 4, 5, 6, 7] rfl)
        · have hb862 := g_eq (a := er_miles (xs (nI (i + 1)).toNatClampNeg) (xs (nI (i + 2)).toNatClampNeg)) (b := 0) h862 (by omega) (by omega)
          have he0 : er_miles (xs (nI (i + 1)).toNatClampNeg) (xs (nI (i + 2)).toNatClampNeg) = 0 := hb862
          obtain ⟨-, r9, σ2, hok, hoff, hσ1⟩ := hq1.resolve_right (fun z => z.1 he0)
          obtain ⟨-, hok3⟩ := hq3.resolve_right (fun z => by obtain ⟨k9, z1, z2, -⟩ := z; omega)
          obtain ⟨vaw, x0, x1, x2, x3, x4⟩ := hok
          obtain ⟨vbw, y0, y1, y2, y3, y4⟩ := hok3
          have hl24 := (hvC vbw y0).2
          have hzz := zs_le (show (Ls vbw).length ≤ 48 by omega)
          have ee : vbw = vaw := g_eq (y1.symm.trans x1) (by omega) (by omega)
          subst ee
          have hr9 : r9 = r3 := Value.int.inj (Option.some.inj (x3.trans y3.symm))
          have hC1 := x4.up31 (k := 31) (e := .inl (g_cL D, 1, .inr (.inl (vp_updL f8 0 r9.toInt64)))) (by decide)
          rw [← hσ1] at hC1
          have hvC3 := hvC
          refine lv_aload_n hx hb dL_law_865 rfl (lv_at hl 4 rfl) ?_
          refine lv_iconst (v := nI 0) hx hb dL_law_866 (by decide) ?_
          have h31 : σ3 31 = .inl (g_cL D, 1, .inr (.inl (vp_updL f8 0 r9.toInt64))) := (ho3 31 (by omega)).trans (by rw [hσ1]; exact g_ups)
          refine g_laldO hx hb hE hP h31 (v := r9.toInt64) (by simp [vp_updL]) dL_law_867 ?_
          refine lv_iload hx hb dL_law_868 (lv_at hl 0 rfl) ?_
          refine lv_i2l (v := (r3).toInt64) hx hb dL_law_870 rfl ?_
          refine W.lcmp hx hb dL_law_871 ?_
          refine g_top (y := nI 0) (by rw [hr9]; exact lg_self) ?_
          refine lv_if_eq (tgt := 877) hx hb dL_law_872 (by decide) (fun h872 => ?_) (fun h872 => ?_)
          · refine lv_goto (tgt := 1435) hx hb dL_law_877 (by decide) ?_
            have hI9 : g_I9 D σ3 _ := ⟨hC1.off ho3 (by decide), hvC3, ⟨_, y4⟩, ⟨_, (ho3 31 (by omega)).trans hO1⟩, ⟨_, (ho3 32 (by omega)).trans hOD1⟩⟩
            refine W.widen (k := cells + 12) (n := slots + 108) (by first | exact Nat.le_refl _ | (show cells + 10 ≤ cells + 12; omega)) (by first | exact Nat.le_refl _ | (show slots + 60 ≤ slots + 108; omega)) ?_
            exact kk σ3 _ _ _ _ hI9 hP hS (lv_sub hl [2, 3, 4, 5, 6, 7] rfl)
          · exact absurd rfl h872
      · exact absurd rfl h855
    · exact absurd h803 h836
  · refine lv_iconst (v := nI 1) hx hb dL_law_806 (by decide) ?_
    refine lv_goto (tgt := 811) hx hb dL_law_807 (by decide) ?_
    refine lv_aload_n hx hb dL_law_811 rfl (lv_at hl 2 rfl) ?_
    refine g_callSH (y := yL_step) (n := 5) (As := [.ref (ad_ D 0), .int (xs (nI (i + 1)).toNatClampNeg), .int (xs (nI (i + 2)).toNatClampNeg), .int (nI 1), .ref (ad_ D 31)]) (rest := []) hx hb hml hown hts hE hZ hP hS hl.1 (m_L_step l hst D hAD σ Ls (xs (nI (i + 1)).toNatClampNeg) (xs (nI (i + 2)).toNatClampNeg) (nI 1) hC hvC f8 hO) k_H_step rfl rfl ⟨Nat.le_of_ble_eq_true rfl, Nat.le_of_ble_eq_true rfl⟩ (Nat.le_of_ble_eq_true rfl) ⟨by show cells + 10 ≤ room_1.cells; exact g_rmC (by omega), by show slots + 60 ≤ room_1.slots; exact g_rmS (by omega)⟩ dL_law_812 (fun v σ1 H locs hq hP hS => ?_)
    obtain ⟨rfl, hq1⟩ := hq
    refine W.eq (g2 := F0 m 815 ls [.int (nI (er_miles (xs (nI (i + 1)).toNatClampNeg) (xs (nI (i + 2)).toNatClampNeg)))]) rfl ?_
    obtain ⟨hk20, ⟨f9, hO1⟩, hOD1⟩ := wl_keep hO hq1
    rw [hOD] at hOD1
    have hM1 := hM.keep hk20
    refine lv_istore (lv' := [(6, .int (nI (er_miles (xs (nI (i + 1)).toNatClampNeg) (xs (nI (i + 2)).toNatClampNeg)))), (1, .ref (ad_ D 0)), (2, .ref (ad_ D 20)), (3, .ref (ad_ D 31)), (4, .ref (ad_ D 32)), (0, .ref b), (5, .int (nI i))]) hx hb dL_law_815 hl (by decide) rfl (fun ls hl => ?_)
    refine lv_aload_n hx hb dL_law_817 rfl (lv_at hl 2 rfl) ?_
    refine lv_aload_n hx hb dL_law_818 rfl (lv_at hl 5 rfl) ?_
    refine lv_iload hx hb dL_law_819 (lv_at hl 6 rfl) ?_
    refine lv_iconst (v := nI 1) hx hb dL_law_821 (by decide) ?_
    refine lv_iadd hx hb dL_law_822 ?_
    refine g_top (y := nI (i + 1)) (nI_add i 1) ?_
    refine va_sld hx hb hX hbl hbA hS (i := nI (i + 1)) (vp_in_nI (by omega) (by omega)) dL_law_823 ?_
    refine lv_aload_n hx hb dL_law_824 rfl (lv_at hl 5 rfl) ?_
    refine lv_iload hx hb dL_law_825 (lv_at hl 6 rfl) ?_
    refine lv_iconst (v := nI 2) hx hb dL_law_827 (by decide) ?_
    refine lv_iadd hx hb dL_law_828 ?_
    refine g_top (y := nI (i + 2)) (nI_add i 2) ?_
    refine va_sld hx hb hX hbl hbA hS (i := nI (i + 2)) (vp_in_nI (by omega) (by omega)) dL_law_829 ?_
    refine lv_aload_n hx hb dL_law_830 rfl (lv_at hl 5 rfl) ?_
    refine lv_iload hx hb dL_law_831 (lv_at hl 6 rfl) ?_
    refine lv_iconst (v := nI 3) hx hb dL_law_833 (by decide) ?_
    refine lv_iadd hx hb dL_law_834 ?_
    refine g_top (y := nI (i + 3)) (nI_add i 3) ?_
    refine va_sld hx hb hX hbl hbA hS (i := nI (i + 3)) (vp_in_nI (by omega) (by omega)) dL_law_835 ?_
    refine lv_if_eq (tgt := 843) hx hb dL_law_836 (by decide) (fun h836 => ?_) (fun h836 => ?_)
    · exact absurd h836 h803
    · refine lv_iconst (v := nI 1) hx hb dL_law_839 (by decide) ?_
      refine lv_goto (tgt := 844) hx hb dL_law_840 (by decide) ?_
      refine g_callV0 (y := yX3_step) (n := 3) (As := [.int (xs (nI (i + 1)).toNatClampNeg), .int (xs (nI (i + 2)).toNatClampNeg), .int (nI 1)]) (rest := []) hx hb hml hown hts hE hZ hP hS hl.1 (m_X3_step l D hAD σ1 th rs sg S N Z R9 T9 hM1 Ls (xs (nI (i + 1)).toNatClampNeg) (xs (nI (i + 2)).toNatClampNeg) (nI 1) hmr hvC) k_L_117 (ci := 3) (by decide) hM1.1 rfl rfl rfl rfl rfl ⟨rfl, rfl⟩ ⟨Nat.le_of_ble_eq_true rfl, Nat.le_of_ble_eq_true rfl⟩ (Nat.le_of_ble_eq_true rfl) ⟨by show cells + 10 ≤ room_1.cells; exact g_rmC (by omega), by show slots + 60 ≤ room_1.slots; exact g_rmS (by omega)⟩ dL_law_844 (fun v3 σ3 H locs hq hP hS => ?_)
      obtain ⟨hq3, ho3⟩ := hq
      obtain ⟨r3, rfl⟩ : ∃ r : Int32, v3 = some (.int r) := by
        rcases hq3 with ⟨-, ⟨_, _, _, _, hv9, _⟩⟩ | ⟨_, _, _, hv9, _⟩
        · exact ⟨_, hv9⟩
        · exact ⟨_, hv9⟩
      refine W.eq (g2 := F0 m 847 ls [.int r3]) rfl ?_
      obtain ⟨Ls3, hMM3⟩ : ∃ Ls3, g_MM D σ3 (nI (er_miles (xs (nI (i + 1)).toNatClampNeg) (xs (nI (i + 2)).toNatClampNeg))) Ls3 := by
        rcases hq3 with ⟨he9, ⟨_, _, _, _, _, hmm9⟩⟩ | ⟨k9, he9, -, -, hmm9⟩
        · exact ⟨_, by rw [he9]; exact hmm9⟩
        · exact ⟨_, by rw [he9]; exact hmm9⟩
      obtain ⟨rs3, sg3, S3, N3, Z3, R3, T3, hM3, hmr3⟩ := id hMM3
      refine lv_istore (lv' := [(7, .int r3), (6, .int (nI (er_miles (xs (nI (i + 1)).toNatClampNeg) (xs (nI (i + 2)).toNatClampNeg)))), (1, .ref (ad_ D 0)), (2, .ref (ad_ D 20)), (3, .ref (ad_ D 31)), (4, .ref (ad_ D 32)), (0, .ref b), (5, .int (nI i))]) hx hb dL_law_847 hl (by decide) rfl (fun ls hl => ?_)
      refine lv_aload_n hx hb dL_law_849 rfl (lv_at hl 3 rfl) ?_
      refine g_callV0 (y := yX3_thrown) (n := 0) (As := []) (rest := []) hx hb hml hown hts hE hZ hP hS hl.1 (m_X3_thrown l D hAD σ3 (nI (er_miles (xs (nI (i + 1)).toNatClampNeg) (xs (nI (i + 2)).toNatClampNeg))) rs3 sg3 S3 N3 Z3 R3 T3 hM3) k_L_85 (ci := 3) (by decide) hM3.1 rfl rfl rfl rfl rfl ⟨rfl, rfl⟩ ⟨Nat.le_of_ble_eq_true rfl, Nat.le_of_ble_eq_true rfl⟩ (Nat.le_of_ble_eq_true rfl) ⟨by show cells + 10 ≤ room_1.cells; exact g_rmC (by omega), by show slots + 60 ≤ room_1.slots; exact g_rmS (by omega)⟩ dL_law_850 (fun v4 σ4 H locs hq hP hS => ?_)
      obtain ⟨rfl, rfl⟩ := hq
      refine W.eq (g2 := F0 m 853 ls [.int (nI (er_miles (xs (nI (i + 1)).toNatClampNeg) (xs (nI (i + 2)).toNatClampNeg)))]) rfl ?_
      have hle9 : er_miles (xs (nI (i + 1)).toNatClampNeg) (xs (nI (i + 2)).toNatClampNeg) ≤ 3 := by
        unfold er_miles
        (repeat' split) <;> decide
      refine lv_iload hx hb dL_law_853 (lv_at hl 1 rfl) ?_
      refine lv_icmp_eq (tgt := 860) hx hb dL_law_855 (by decide) (fun h855 => ?_) (fun h855 => ?_)
      · refine lv_iload hx hb dL_law_860 (lv_at hl 1 rfl) ?_
        refine lv_if_ne (tgt := 877) hx hb dL_law_862 (by decide) (fun h862 => ?_) (fun h862 => ?_)
        · have hb862 := g_ne (a := er_miles (xs (nI (i + 1)).toNatClampNeg) (xs (nI (i + 2)).toNatClampNeg)) (b := 0) h862 (by omega) (by omega)
          refine lv_goto (tgt := 1435) hx hb dL_law_877 (by decide) ?_
          obtain ⟨hne, hC1, ho1⟩ := hq1.resolve_left (fun z => hb862 z.1)
          obtain ⟨k9, -, -, -, hmm9⟩ := hq3.resolve_left (fun z => hne z.1)
          have hI9 : g_I9 D σ3 _ := ⟨hC1.off ho3 (by decide), hvC, ⟨_, hmm9⟩, ⟨_, (ho3 31 (by omega)).trans hO1⟩, ⟨_, (ho3 32 (by omega)).trans hOD1⟩⟩
          refine W.widen (k := cells + 12) (n := slots + 108) (by first | exact Nat.le_refl _ | (show cells + 10 ≤ cells + 12; omega)) (by first | exact Nat.le_refl _ | (show slots + 60 ≤ slots + 108; omega)) ?_
          exact kk σ3 _ _ _ _ hI9 hP hS (lv_sub hl [2, 3, 4, 5, 6, 7] rfl)
        · have hb862 := g_eq (a := er_miles (xs (nI (i + 1)).toNatClampNeg) (xs (nI (i + 2)).toNatClampNeg)) (b := 0) h862 (by omega) (by omega)
          have he0 : er_miles (xs (nI (i + 1)).toNatClampNeg) (xs (nI (i + 2)).toNatClampNeg) = 0 := hb862
          obtain ⟨-, r9, σ2, hok, hoff, hσ1⟩ := hq1.resolve_right (fun z => z.1 he0)
          obtain ⟨-, hok3⟩ := hq3.resolve_right (fun z => by obtain ⟨k9, z1, z2, -⟩ := z; omega)
          obtain ⟨vaw, x0, x1, x2, x3, x4⟩ := hok
          obtain ⟨vbw, y0, y1, y2, y3, y4⟩ := hok3
          have hl24 := (hvC vbw y0).2
          have hzz := zs_le (show (Ls vbw).length ≤ 48 by omega)
          have ee : vbw = vaw := g_eq (y1.symm.trans x1) (by omega) (by omega)
          subst ee
          have hr9 : r9 = r3 := Value.int.inj (Option.some.inj (x3.trans y3.symm))
          have hC1 := x4.up31 (k := 31) (e := .inl (g_cL D, 1, .inr (.inl (vp_updL f8 0 r9.toInt64)))) (by decide)
          rw [← hσ1] at hC1
          have hvC3 := hvC
          refine lv_aload_n hx hb dL_law_865 rfl (lv_at hl 4 rfl) ?_
          refine lv_iconst (v := nI 0) hx hb dL_law_866 (by decide) ?_
          have h31 : σ3 31 = .inl (g_cL D, 1, .inr (.inl (vp_updL f8 0 r9.toInt64))) := (ho3 31 (by omega)).trans (by rw [hσ1]; exact g_ups)
          refine g_laldO hx hb hE hP h31 (v := r9.toInt64) (by simp [vp_updL]) dL_law_867 ?_
          refine lv_iload hx hb dL_law_868 (lv_at hl 0 rfl) ?_
          refine lv_i2l (v := (r3).toInt64) hx hb dL_law_870 rfl ?_
          refine W.lcmp hx hb dL_law_871 ?_
          refine g_top (y := nI 0) (by rw [hr9]; exact lg_self) ?_
          refine lv_if_eq (tgt := 877) hx hb dL_law_872 (by decide) (fun h872 => ?_) (fun h872 => ?_)
          · refine lv_goto (tgt := 1435) hx hb dL_law_877 (by decide) ?_
            have hI9 : g_I9 D σ3 _ := ⟨hC1.off ho3 (by decide), hvC3, ⟨_, y4⟩, ⟨_, (ho3 31 (by omega)).trans hO1⟩, ⟨_, (ho3 32 (by omega)).trans hOD1⟩⟩
            refine W.widen (k := cells + 12) (n := slots + 108) (by first | exact Nat.le_refl _ | (show cells + 10 ≤ cells + 12; omega)) (by first | exact Nat.le_refl _ | (show slots + 60 ≤ slots + 108; omega)) ?_
            exact kk σ3 _ _ _ _ hI9 hP hS (lv_sub hl [2, 3, 4, 5, 6, 7] rfl)
          · exact absurd rfl h872
      · exact absurd rfl h855

set_option maxHeartbeats 4000000 in
set_option maxRecDepth 100000 in
theorem lc_mean {p : Program} {l : Launch} {e : Env} {s : State} {m : MethodId} {args : Array Value} {below : List Frame} {meth : Method} {c : Code} {H : Heap} {locs : List Loc} {cells slots : Nat} {Q : State → Prop} (hst : l.stackTraces = false) {D : va_G} (hAD : g_AD D) {σ : Nat → va_E} {Ls : Nat → g_L} (hI : g_I9 D σ Ls) (hx : p.tables.exec = Jvm.exec) (hb : c.code = cL_law) (hml : c.maxLocals = 9) (hown : s.vm.findClass RL = some m.cls) (hts : ∀ w ∈ g_WA, w.before args s = true) (hE : g_EV D s) (hZ : g_EZ (g_A D s.heap.size) s s.heap) {b L : Nat} {xs : Nat → Int32} (hX : va_X b L xs s s.heap) (hbl : b < s.heap.size) (hbA : ¬ g_A D s.heap.size b) {i : Nat} (hi : i + 5 ≤ L) (hL : L ≤ 2560) (hP : va_P D vwCl (g_W D σ) H) (hS : va_S (g_A D s.heap.size) s.heap H locs) {ls : Array Slot} (hl : lv_has ls 9 [(1, .ref (ad_ D 0)), (2, .ref (ad_ D 20)), (3, .ref (ad_ D 31)), (4, .ref (ad_ D 32)), (0, .ref b), (5, .int (nI i))]) (hcs : cells + 12 ≤ 600000) (hsl : slots + 108 ≤ 6500000)
    (kk : ∀ (σ9 : Nat → va_E) (Ls9 : Nat → g_L) (H : Heap) (locs : List Loc) (ls : Array Slot), g_I9 D σ9 Ls9 → va_P D vwCl (g_W D σ9) H → va_S (g_A D s.heap.size) s.heap H locs → lv_has ls 9 [(1, .ref (ad_ D 0)), (2, .ref (ad_ D 20)), (3, .ref (ad_ D 31)), (4, .ref (ad_ D 32)), (0, .ref b), (5, .int (nI i))] → W p l e room_1 s m args below meth c H locs (cells + 12) (slots + 108) Q (F0 m 1435 ls [])) : W p l e room_1 s m args below meth c H locs cells slots Q (F0 m 1344 ls []) := by
  obtain ⟨hC, hvC, ⟨th, rs, sg, S, N, Z, R9, T9, hM, hmr⟩, ⟨f8, hO⟩, ⟨fD, hOD⟩⟩ := id hI
  refine lv_aload_n hx hb dL_law_1344 rfl (lv_at hl 0 rfl) ?_
  refine lv_aload_n hx hb dL_law_1345 rfl (lv_at hl 4 rfl) ?_
  refine lv_iload hx hb dL_law_1346 (lv_at hl 5 rfl) ?_
  refine lv_iconst (v := nI 1) hx hb dL_law_1348 (by decide) ?_
  refine lv_iadd hx hb dL_law_1349 ?_
  refine g_top (y := nI (i + 1)) (nI_add i 1) ?_
  refine va_sld hx hb hX hbl hbA hS (i := nI (i + 1)) (vp_in_nI (by omega) (by omega)) dL_law_1350 ?_
  refine lv_aload hx hb dL_law_1351 (lv_at hl 3 rfl) ?_
  refine g_callSH (y := yL_mean) (n := 3) (As := [.ref (ad_ D 0), .int (xs (nI (i + 1)).toNatClampNeg), .ref (ad_ D 32)]) (rest := []) hx hb hml hown hts hE hZ hP hS hl.1 (m_L_mean l hst D hAD σ Ls (xs (nI (i + 1)).toNatClampNeg) hC hvC fD hOD) k_H_mean rfl rfl ⟨Nat.le_of_ble_eq_true rfl, Nat.le_of_ble_eq_true rfl⟩ (Nat.le_of_ble_eq_true rfl) ⟨by show cells + 10 ≤ room_1.cells; exact g_rmC (by omega), by show slots + 60 ≤ room_1.slots; exact g_rmS (by omega)⟩ dL_law_1353 (fun v σ1 H locs hq hP hS => ?_)
  obtain ⟨rfl, hq1⟩ := hq
  refine W.eq (g2 := F0 m 1356 ls [.int (nI (er_wood (xs (nI (i + 1)).toNatClampNeg)))]) rfl ?_
  obtain ⟨hk20, ⟨f9, hOD1⟩, hO1⟩ := wl_keepD hOD hq1
  rw [hO] at hO1
  have hM1 := hM.keep hk20
  refine lv_istore (lv' := [(6, .int (nI (er_wood (xs (nI (i + 1)).toNatClampNeg)))), (1, .ref (ad_ D 0)), (2, .ref (ad_ D 20)), (3, .ref (ad_ D 31)), (4, .ref (ad_ D 32)), (0, .ref b), (5, .int (nI i))]) hx hb dL_law_1356 hl (by decide) rfl (fun ls hl => ?_)
  refine lv_aload_n hx hb dL_law_1358 rfl (lv_at hl 2 rfl) ?_
  refine lv_aload_n hx hb dL_law_1359 rfl (lv_at hl 5 rfl) ?_
  refine lv_iload hx hb dL_law_1360 (lv_at hl 6 rfl) ?_
  refine lv_iconst (v := nI 1) hx hb dL_law_1362 (by decide) ?_
  refine lv_iadd hx hb dL_law_1363 ?_
  refine g_top (y := nI (i + 1)) (nI_add i 1) ?_
  refine va_sld hx hb hX hbl hbA hS (i := nI (i + 1)) (vp_in_nI (by omega) (by omega)) dL_law_1364 ?_
  refine g_callV0 (y := yX3_mean) (n := 1) (As := [.int (xs (nI (i + 1)).toNatClampNeg)]) (rest := []) hx hb hml hown hts hE hZ hP hS hl.1 (m_X3_mean l D hAD σ1 th rs sg S N Z R9 T9 hM1 Ls (xs (nI (i + 1)).toNatClampNeg) hmr hvC) k_L_144 (ci := 3) (by decide) hM1.1 rfl rfl rfl rfl rfl ⟨rfl, rfl⟩ ⟨Nat.le_of_ble_eq_true rfl, Nat.le_of_ble_eq_true rfl⟩ (Nat.le_of_ble_eq_true rfl) ⟨by show cells + 10 ≤ room_1.cells; exact g_rmC (by omega), by show slots + 60 ≤ room_1.slots; exact g_rmS (by omega)⟩ dL_law_1365 (fun v3 σ3 H locs hq hP hS => ?_)
  obtain ⟨hq3, ho3⟩ := hq
  obtain ⟨r3, rfl⟩ : ∃ r : UInt64, v3 = some (.double r) := by
    rcases hq3 with ⟨-, ⟨_, _, _, hv9, _⟩⟩ | ⟨_, _, _, hv9, _⟩
    · exact ⟨_, hv9⟩
    · exact ⟨_, hv9⟩
  refine W.eq (g2 := F0 m 1368 ls [.double r3]) rfl ?_
  obtain ⟨Ls3, hMM3⟩ : ∃ Ls3, g_MM D σ3 (nI (er_wood (xs (nI (i + 1)).toNatClampNeg))) Ls3 := by
    rcases hq3 with ⟨he9, ⟨_, _, _, _, hmm9⟩⟩ | ⟨k9, he9, -, -, hmm9⟩
    · exact ⟨_, by rw [he9]; exact hmm9⟩
    · exact ⟨_, by rw [he9]; exact hmm9⟩
  obtain ⟨rs3, sg3, S3, N3, Z3, R3, T3, hM3, hmr3⟩ := id hMM3
  refine lv_dstore (lv' := [(7, .double r3), (6, .int (nI (er_wood (xs (nI (i + 1)).toNatClampNeg)))), (1, .ref (ad_ D 0)), (2, .ref (ad_ D 20)), (3, .ref (ad_ D 31)), (4, .ref (ad_ D 32)), (0, .ref b), (5, .int (nI i))]) hx hb dL_law_1368 hl (by decide) rfl (fun ls hl => ?_)
  refine lv_aload_n hx hb dL_law_1370 rfl (lv_at hl 3 rfl) ?_
  refine g_callV0 (y := yX3_thrown) (n := 0) (As := []) (rest := []) hx hb hml hown hts hE hZ hP hS hl.1 (m_X3_thrown l D hAD σ3 (nI (er_wood (xs (nI (i + 1)).toNatClampNeg))) rs3 sg3 S3 N3 Z3 R3 T3 hM3) k_L_85 (ci := 3) (by decide) hM3.1 rfl rfl rfl rfl rfl ⟨rfl, rfl⟩ ⟨Nat.le_of_ble_eq_true rfl, Nat.le_of_ble_eq_true rfl⟩ (Nat.le_of_ble_eq_true rfl) ⟨by show cells + 10 ≤ room_1.cells; exact g_rmC (by omega), by show slots + 60 ≤ room_1.slots; exact g_rmS (by omega)⟩ dL_law_1371 (fun v4 σ4 H locs hq hP hS => ?_)
  obtain ⟨rfl, rfl⟩ := hq
  refine W.eq (g2 := F0 m 1374 ls [.int (nI (er_wood (xs (nI (i + 1)).toNatClampNeg)))]) rfl ?_
  have hle9 : er_wood (xs (nI (i + 1)).toNatClampNeg) ≤ 3 := by
    unfold er_wood
    (repeat' split) <;> decide
  refine lv_iload hx hb dL_law_1374 (lv_at hl 1 rfl) ?_
  refine lv_icmp_eq (tgt := 1381) hx hb dL_law_1376 (by decide) (fun h1376 => ?_) (fun h1376 => ?_)
  · refine lv_iload hx hb dL_law_1381 (lv_at hl 1 rfl) ?_
    refine lv_if_ne (tgt := 1418) hx hb dL_law_1383 (by decide) (fun h1383 => ?_) (fun h1383 => ?_)
    · have hb1383 := g_ne (a := er_wood (xs (nI (i + 1)).toNatClampNeg)) (b := 0) h1383 (by omega) (by omega)
      refine lv_goto (tgt := 1435) hx hb dL_law_1418 (by decide) ?_
      obtain ⟨hne, hC1, ho1⟩ := hq1.resolve_left (fun z => hb1383 z.1)
      obtain ⟨k9, -, -, -, hmm9⟩ := hq3.resolve_left (fun z => hne z.1)
      have hI9 : g_I9 D σ3 _ := ⟨hC1.off ho3 (by decide), hvC, ⟨_, hmm9⟩, ⟨_, (ho3 31 (by omega)).trans hO1⟩, ⟨_, (ho3 32 (by omega)).trans hOD1⟩⟩
      refine W.widen (k := cells + 12) (n := slots + 108) (by first | exact Nat.le_refl _ | (show cells + 10 ≤ cells + 12; omega)) (by first | exact Nat.le_refl _ | (show slots + 60 ≤ slots + 108; omega)) ?_
      exact kk σ3 _ _ _ _ hI9 hP hS (lv_sub hl [2, 3, 4, 5, 6, 7] rfl)
    · have hb1383 := g_eq (a := er_wood (xs (nI (i + 1)).toNatClampNeg)) (b := 0) h1383 (by omega) (by omega)
      have he0 : er_wood (xs (nI (i + 1)).toNatClampNeg) = 0 := hb1383
      obtain ⟨-, r9, σ2, hok, hoff, hσ1⟩ := hq1.resolve_right (fun z => z.1 he0)
      obtain ⟨-, hok3⟩ := hq3.resolve_right (fun z => by obtain ⟨k9, z1, z2, -⟩ := z; omega)
      obtain ⟨vaw, x0, x1, x2, x3⟩ := hok
      obtain ⟨vbw, y0, y1, y2, y3⟩ := hok3
      have hl24 := (hvC vbw y0).2
      have hzz := zs_le (show (Ls vbw).length ≤ 48 by omega)
      have ee : vbw = vaw := g_eq (y1.symm.trans x1) (by omega) (by omega)
      subst ee
      have hr9 : r9 = r3 := Value.double.inj (Option.some.inj (x2.trans y2.symm))
      have hC1 := x3.up31 (k := 32) (e := .inl (g_cD D, 1, .inr (.inr (.inr (.inl (vf_upd fD 0 r9)))))) (by decide)
      rw [← hσ1] at hC1
      have hvC3 := hvC
      refine lv_aload hx hb dL_law_1386 (lv_at hl 5 rfl) ?_
      refine lv_iconst (v := nI 0) hx hb dL_law_1388 (by decide) ?_
      have h32 : σ3 32 = .inl (g_cD D, 1, .inr (.inr (.inr (.inl (vf_upd fD 0 r9))))) := (ho3 32 (by omega)).trans (by rw [hσ1]; exact g_ups)
      refine g_daldO hx hb hE hP h32 (v := r3) (by rw [hr9]; simp [vf_upd]) dL_law_1389 ?_
      refine lv_dload hx hb dL_law_1390 (lv_at hl 0 rfl) ?_
      refine lv_dcmp hx hb dL_law_1392 ?_
      refine lv_if_eq (tgt := 1418) hx hb dL_law_1393 (by decide) (fun h1393 => ?_) (fun h1393 => ?_)
      · refine lv_goto (tgt := 1435) hx hb dL_law_1418 (by decide) ?_
        have hI9 : g_I9 D σ3 _ := ⟨hC1.off ho3 (by decide), hvC3, ⟨_, y3⟩, ⟨_, (ho3 31 (by omega)).trans hO1⟩, ⟨_, (ho3 32 (by omega)).trans hOD1⟩⟩
        refine W.widen (k := cells + 12) (n := slots + 108) (by first | exact Nat.le_refl _ | (show cells + 10 ≤ cells + 12; omega)) (by first | exact Nat.le_refl _ | (show slots + 60 ≤ slots + 108; omega)) ?_
        exact kk σ3 _ _ _ _ hI9 hP hS (lv_sub hl [2, 3, 4, 5, 6, 7] rfl)
      · refine lv_aload hx hb dL_law_1396 (lv_at hl 5 rfl) ?_
        refine lv_iconst (v := nI 0) hx hb dL_law_1398 (by decide) ?_
        have h32 : σ3 32 = .inl (g_cD D, 1, .inr (.inr (.inr (.inl (vf_upd fD 0 r9))))) := (ho3 32 (by omega)).trans (by rw [hσ1]; exact g_ups)
        refine g_daldO hx hb hE hP h32 (v := r3) (by rw [hr9]; simp [vf_upd]) dL_law_1399 ?_
        refine lv_aload hx hb dL_law_1400 (lv_at hl 5 rfl) ?_
        refine lv_iconst (v := nI 0) hx hb dL_law_1402 (by decide) ?_
        have h32 : σ3 32 = .inl (g_cD D, 1, .inr (.inr (.inr (.inl (vf_upd fD 0 r9))))) := (ho3 32 (by omega)).trans (by rw [hσ1]; exact g_ups)
        refine g_daldO hx hb hE hP h32 (v := r3) (by rw [hr9]; simp [vf_upd]) dL_law_1403 ?_
        refine lv_dcmp hx hb dL_law_1404 ?_
        refine lv_if_eq (tgt := 1416) hx hb dL_law_1405 (by decide) (fun h1405 => ?_) (fun h1405 => ?_)
        · exact absurd h1405 h1393
        · refine lv_dload hx hb dL_law_1408 (lv_at hl 0 rfl) ?_
          refine lv_dload hx hb dL_law_1410 (lv_at hl 0 rfl) ?_
          refine lv_dcmp hx hb dL_law_1412 ?_
          refine lv_if_ne (tgt := 1418) hx hb dL_law_1413 (by decide) (fun h1413 => ?_) (fun h1413 => ?_)
          · refine lv_goto (tgt := 1435) hx hb dL_law_1418 (by decide) ?_
            have hI9 : g_I9 D σ3 _ := ⟨hC1.off ho3 (by decide), hvC3, ⟨_, y3⟩, ⟨_, (ho3 31 (by omega)).trans hO1⟩, ⟨_, (ho3 32 (by omega)).trans hOD1⟩⟩
            refine W.widen (k := cells + 12) (n := slots + 108) (by first | exact Nat.le_refl _ | (show cells + 10 ≤ cells + 12; omega)) (by first | exact Nat.le_refl _ | (show slots + 60 ≤ slots + 108; omega)) ?_
            exact kk σ3 _ _ _ _ hI9 hP hS (lv_sub hl [2, 3, 4, 5, 6, 7] rfl)
          · exact absurd h1413 h1393
  · exact absurd rfl h1376

set_option maxHeartbeats 4000000 in
set_option maxRecDepth 100000 in
theorem lc_digest {p : Program} {l : Launch} {e : Env} {s : State} {m : MethodId} {args : Array Value} {below : List Frame} {meth : Method} {c : Code} {H : Heap} {locs : List Loc} {cells slots : Nat} {Q : State → Prop} (hst : l.stackTraces = false) {D : va_G} (hAD : g_AD D) {σ : Nat → va_E} {Ls : Nat → g_L} (hI : g_I9 D σ Ls) (hx : p.tables.exec = Jvm.exec) (hb : c.code = cL_law) (hml : c.maxLocals = 9) (hown : s.vm.findClass RL = some m.cls) (hts : ∀ w ∈ g_WA, w.before args s = true) (hE : g_EV D s) (hZ : g_EZ (g_A D s.heap.size) s s.heap) {b L : Nat} {xs : Nat → Int32} (hX : va_X b L xs s s.heap) (hbl : b < s.heap.size) (hbA : ¬ g_A D s.heap.size b) {i : Nat} (hi : i + 5 ≤ L) (hL : L ≤ 2560) (hP : va_P D vwCl (g_W D σ) H) (hS : va_S (g_A D s.heap.size) s.heap H locs) {ls : Array Slot} (hl : lv_has ls 9 [(1, .ref (ad_ D 0)), (2, .ref (ad_ D 20)), (3, .ref (ad_ D 31)), (4, .ref (ad_ D 32)), (0, .ref b), (5, .int (nI i))]) (hcs : cells + 12 ≤ 600000) (hsl : slots + 108 ≤ 6500000)
    (kk : ∀ (σ9 : Nat → va_E) (Ls9 : Nat → g_L) (H : Heap) (locs : List Loc) (ls : Array Slot), g_I9 D σ9 Ls9 → va_P D vwCl (g_W D σ9) H → va_S (g_A D s.heap.size) s.heap H locs → lv_has ls 9 [(1, .ref (ad_ D 0)), (2, .ref (ad_ D 20)), (3, .ref (ad_ D 31)), (4, .ref (ad_ D 32)), (0, .ref b), (5, .int (nI i))] → W p l e room_1 s m args below meth c H locs (cells + 12) (slots + 108) Q (F0 m 1435 ls [])) : W p l e room_1 s m args below meth c H locs cells slots Q (F0 m 1421 ls []) := by
  obtain ⟨hC, hvC, ⟨th, rs, sg, S, N, Z, R9, T9, hM, hmr⟩, ⟨f8, hO⟩, ⟨fD, hOD⟩⟩ := id hI
  refine lv_aload_n hx hb dL_law_1421 rfl (lv_at hl 0 rfl) ?_
  refine g_callV0 (y := yX2_digest) (n := 0) (As := []) (rest := []) hx hb hml hown hts hE hZ hP hS hl.1 (m_X2_digest l D hAD σ Ls hC hvC) k_L_145 (ci := 2) (by decide) hC.1 rfl rfl rfl rfl rfl ⟨rfl, rfl⟩ ⟨Nat.le_of_ble_eq_true rfl, Nat.le_of_ble_eq_true rfl⟩ (Nat.le_of_ble_eq_true rfl) ⟨by show cells + 0 ≤ room_1.cells; exact g_rmC (by omega), by show slots + 0 ≤ room_1.slots; exact g_rmS (by omega)⟩ dL_law_1422 (fun v1 σ1 H locs hq hP hS => ?_)
  obtain ⟨rfl, hC1, ho1⟩ := hq
  refine W.eq (g2 := F0 m 1425 ls [.long (di_ (Ls 0) (Ls 1))]) rfl ?_
  have hM1 := hM.keep (fun k h1 h2 => ho1 k (by omega))
  refine lv_aload_n hx hb dL_law_1425 rfl (lv_at hl 1 rfl) ?_
  refine g_callV0 (y := yX3_digest) (n := 0) (As := []) (rest := [.long (di_ (Ls 0) (Ls 1))]) hx hb hml hown hts hE hZ hP hS hl.1 (m_X3_digest l D hAD σ1 th rs sg S N Z R9 T9 hM1 Ls hmr hvC) k_L_149 (ci := 3) (by decide) hM1.1 rfl rfl rfl rfl rfl ⟨rfl, rfl⟩ ⟨Nat.le_of_ble_eq_true rfl, Nat.le_of_ble_eq_true rfl⟩ (Nat.le_of_ble_eq_true rfl) ⟨by show cells + 0 ≤ room_1.cells; exact g_rmC (by omega), by show slots + 0 ≤ room_1.slots; exact g_rmS (by omega)⟩ dL_law_1426 (fun v3 σ3 H locs hq hP hS => ?_)
  obtain ⟨rfl, hmm, ho3⟩ := hq
  refine W.eq (g2 := F0 m 1429 ls [.long (di_ (Ls 0) (Ls 1)), .long (di_ (Ls 0) (Ls 1))]) rfl ?_
  refine W.lcmp hx hb dL_law_1429 ?_
  refine g_top (y := nI 0) lg_self ?_
  refine lv_if_eq (tgt := 1435) hx hb dL_law_1430 (by decide) (fun _ => ?_) (fun h => absurd rfl h)
  have hI9 : g_I9 D σ3 Ls := ⟨hC1.off ho3 (by decide), hvC, ⟨_, hmm⟩, ⟨_, (ho3 31 (by omega)).trans ((ho1 31 (by omega)).trans hO)⟩, ⟨_, (ho3 32 (by omega)).trans ((ho1 32 (by omega)).trans hOD)⟩⟩
  refine W.widen (k := cells + 12) (n := slots + 108) (by omega) (by omega) ?_
  exact kk σ3 _ _ _ _ hI9 hP hS hl
